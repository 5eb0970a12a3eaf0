import java.util.List;
import java.util.function.Consumer;
import java.util.function.Supplier;

// What is refused and what it leaves as it was; which code and which reason comes first; accounts and shares;
// undo and the snapshot, in the empty house and in the full one.
public final class RefusedTest extends Checks {
    private static SilkTariff empty() {
        return new SilkTariff();
    }

    /** Some of everything: a good in bond, one without a working, one entered, one exported, one exported from bond. */
    private static SilkTariff furnished() {
        SilkTariff x = new SilkTariff();
        x.heading(40, 1, 1, 10, 2);
        x.heading(30, 3, 3, 20, 0);
        x.coins(100);
        for (int good = 0; good < 5; good++) {
            x.good(good % 3, 10, 100 + good, 0, 50, 0);
        }
        x.work(0, 4, 99);
        x.work(2, 3, 5);
        x.work(3, 3, 5);
        x.favour(3, 10);
        x.enter(2);
        x.enter(3);
        x.export(3);
        x.save();
        x.export(4);
        x.days(7);
        x.heading(40, 0, 0, 0, 0);
        x.tell(2);
        return typed(x, "strike 99");
    }

    /** Ten headings, twelve goods, each of them worked on six times, no coins, and a text of 60 characters. */
    private static SilkTariff full() {
        SilkTariff x = new SilkTariff();
        x.save();
        for (int code = 1; code <= 10; code++) {
            x.heading(code * 9, code % 5, code % 4, code, code);
        }
        for (int good = 0; good < 12; good++) {
            x.good(good % 3, 1 + good, 200 + good, good, 2 * good, 3 * good);
            for (int time = 0; time < 6; time++) {
                x.work(good, (good + time) % 5, 50);
            }
        }
        x.coins(1);
        x.tellHeading(90);
        return typed(x, "day 99;day 99;day 99;day 99;day 99;day 99;day 99;day 99;day ");
    }

    /** That a call answers a code, and leaves the house, its earlier changes and its snapshot as they were. */
    private static void dueUnchanged(Supplier<SilkTariff> house, int code, Tried call) {
        SilkTariff once = house.get();
        int reason = once.reason(false);
        int detail = once.reason(true);
        int answer = call.on(once);
        due(answer, code);
        boolean isRun = answer <= -1000;
        if (answer != REFUSED) {
            dueReason(once, reason, detail);
        }
        Consumer<SilkTariff> trying = x -> call.on(x);
        dueAlike(told(then(house, trying), isRun), told(house, isRun));
        Consumer<SilkTariff> undoing = x -> x.undo();
        dueAlike(told(then(then(house, trying), undoing), isRun), told(then(house, undoing), isRun));
        Consumer<SilkTariff> allUndone = x -> {
            for (int time = 0; time < 9; time++) {
                x.undo();
            }
        };
        dueAlike(told(then(then(house, trying), allUndone), isRun), told(then(house, allUndone), isRun));
        Consumer<SilkTariff> restoring = x -> x.restore();
        dueAlike(told(then(then(house, trying), restoring), isRun), told(then(house, restoring), isRun));
    }

    private interface Tried {
        int on(SilkTariff x);
    }

    /** The house without what a refused call may change: its reason, and the text if the call was run. */
    private static List<String> told(Supplier<SilkTariff> house, boolean isRun) {
        List<String> state = stateOf(house);
        state.removeIf(each -> each.startsWith("reason ") || (isRun && each.startsWith("account(12)")));
        return state;
    }

    private static void codesOfEmptyHouse() {
        says("Terms", "A call that returns a code leaves everything unchanged, except that run empties the text, and that reasons are kept.");
        Supplier<SilkTariff> house = () -> empty();
        dueUnchanged(house, NONE, x -> x.strike(1));
        dueUnchanged(house, NONE, x -> x.strike(99));
        dueUnchanged(house, NONE, x -> x.headingOf(1, 0));
        dueUnchanged(house, BAD, x -> x.headingOf(99, 5));
        dueUnchanged(house, NONE, x -> x.code(1));
        dueUnchanged(house, NONE, x -> x.work(0, 0, 1));
        dueUnchanged(house, NONE, x -> x.goodOf(0, 0));
        dueUnchanged(house, NONE, x -> x.part(0, 0));
        dueUnchanged(house, NONE, x -> x.points(0, 0));
        dueUnchanged(house, NONE, x -> x.fit(0, 0));
        dueUnchanged(house, NONE, x -> x.fitAgain(0));
        dueUnchanged(house, NONE, x -> x.why(0));
        dueUnchanged(house, NONE, x -> x.enter(0));
        dueUnchanged(house, NONE, x -> x.export(0));
        dueUnchanged(house, NONE, x -> x.would(0, 0));
        dueUnchanged(house, NONE, x -> x.cheapest(0));
        dueUnchanged(house, NONE, x -> x.ranked(0));
        dueUnchanged(house, NONE, x -> x.tell(0));
        dueUnchanged(house, NONE, x -> x.tellHeading(1));
        dueUnchanged(house, NONE, x -> x.character(0));
        dueUnchanged(house, NOTHING, x -> x.reason(true));
        dueUnchanged(house, BAD, x -> x.account(14));
        dueUnchanged(house, NOTHING, x -> x.undo());
        dueUnchanged(house, NOTHING, x -> x.restore());
        dueUnchanged(house, -1000, x -> x.run());
        dueBadNumbers(house);
    }

    private static void dueBadNumbers(Supplier<SilkTariff> house) {
        dueUnchanged(house, BAD, x -> x.heading(0, 0, 0, 0, 0));
        dueUnchanged(house, BAD, x -> x.heading(99, 0, 0, 0, 0));
        dueUnchanged(house, BAD, x -> x.heading(5, 5, 0, 0, 0));
        dueUnchanged(house, BAD, x -> x.heading(5, 0, 4, 0, 0));
        dueUnchanged(house, BAD, x -> x.heading(5, 0, 0, 61, 0));
        dueUnchanged(house, BAD, x -> x.heading(5, 0, 0, 0, 21));
        dueUnchanged(house, BAD, x -> x.good(3, 1, 1, 0, 0, 0));
        dueUnchanged(house, BAD, x -> x.good(0, 100, 1, 0, 0, 0));
        dueUnchanged(house, BAD, x -> x.good(0, 1, 1000, 0, 0, 0));
        dueUnchanged(house, BAD, x -> x.good(0, 1, 1, 50, 50, 1));
        dueUnchanged(house, NONE, x -> x.favour(5, 1));
        dueUnchanged(house, BAD, x -> x.favour(0, 101));
        dueUnchanged(house, BAD, x -> x.coins(0));
        dueUnchanged(house, BAD, x -> x.coins(10000));
        dueUnchanged(house, BAD, x -> x.days(0));
        dueUnchanged(house, BAD, x -> x.days(100));
        dueUnchanged(house, BAD, x -> x.append(31));
        dueUnchanged(house, BAD, x -> x.append(127));
    }

    private static void codesOfFurnishedHouse() {
        says("Terms", "A call that returns a code leaves everything unchanged, except that run empties the text, and that reasons are kept.");
        Supplier<SilkTariff> house = () -> furnished();
        dueBadNumbers(house);
        dueUnchanged(house, REFUSED, x -> x.heading(40, 0, 0, 0, 0));
        dueUnchanged(house, NONE, x -> x.strike(41));
        dueUnchanged(house, NONE, x -> x.work(5, 0, 1));
        dueUnchanged(house, NONE, x -> x.work(0, 5, 1));
        dueUnchanged(house, BAD, x -> x.work(0, 0, 100));
        dueUnchanged(house, REFUSED, x -> x.work(2, 0, 1));
        dueUnchanged(house, REFUSED, x -> x.work(3, 0, 1));
        dueUnchanged(house, REFUSED, x -> x.enter(1));
        dueUnchanged(house, REFUSED, x -> x.enter(2));
        dueUnchanged(house, REFUSED, x -> x.enter(4));
        dueUnchanged(house, NONE, x -> x.enter(5));
        dueUnchanged(house, REFUSED, x -> x.export(3));
        dueUnchanged(house, REFUSED, x -> x.export(4));
        dueUnchanged(house, NONE, x -> x.export(5));
        dueUnchanged(house, NONE, x -> x.tell(5));
        dueUnchanged(house, NONE, x -> x.tellHeading(41));
        says("Terms", "except that run empties the text");
        Supplier<SilkTariff> wiped = then(house, x -> x.run());
        due(wiped.get().account(12), 0);
        dueReason(wiped.get(), 6, 0);
        for (String text : new String[] {"day 1;coins 5;enter 0;export 0;strike 40;favour 0=3;enter 1", "strike 40;strike 30;strike 40",
            "good t 1 1 1/1/1;work 5 0 1;head 1 ** 1 1;day 0", "export 0;export 1;export 2;export 3", "coins 0"}) {
            dueUnchanged(wiped, REFUSED, x -> run(x, text));
        }
        dueUnchanged(wiped, -1016, x -> run(x, "day 1;strike 40;"));
        dueUnchanged(wiped, -1000, x -> run(x, ""));
        SilkTariff typing = typed(wiped.get(), "day 1;x");
        due(typing.account(12), 7);
        due(typing.run(), -1006);
        due(typing.account(12), 0);
        typed(typing, "day 1");
        due(typing.run(), 1);
        due(typing.account(12), 0);
    }

    private static void codesOfFullHouse() {
        says("Terms", "A call that returns a code leaves everything unchanged, except that run empties the text, and that reasons are kept.");
        Supplier<SilkTariff> house = () -> full();
        dueBadNumbers(house);
        dueUnchanged(house, REFUSED, x -> x.heading(5, 0, 0, 0, 0));
        dueUnchanged(house, REFUSED, x -> x.heading(9, 0, 0, 0, 0));
        dueUnchanged(house, REFUSED, x -> x.good(0, 1, 1, 0, 0, 0));
        dueUnchanged(house, REFUSED, x -> x.work(11, 0, 1));
        dueUnchanged(house, REFUSED, x -> x.enter(0));
        dueUnchanged(house, FULL, x -> x.append(65));
        dueUnchanged(house, NONE, x -> x.ranked(12));
        dueUnchanged(house, NONE, x -> x.code(11));
        dueUnchanged(house, -1060, x -> x.run());
    }

    private static void firstCode() {
        says("Terms", "If several codes apply, the one that is listed first is returned.");
        SilkTariff x = full();
        due(x.heading(9, 5, 0, 0, 0), BAD);
        due(x.heading(5, 0, 0, 61, 0), BAD);
        dueReason(x, NOTHING, NOTHING);
        due(x.heading(9, 0, 0, 0, 0), REFUSED);
        dueReason(x, 2, 9);
        due(x.headingOf(5, 5), NONE);
        due(x.headingOf(5, -1), NONE);
        due(x.good(0, 1, 1, 50, 50, 1), BAD);
        due(x.good(3, 1, 1, 0, 0, 0), BAD);
        due(x.work(12, 0, 100), NONE);
        due(x.work(0, 5, 0), NONE);
        due(x.work(12, 5, 0), NONE);
        due(x.work(0, 0, 100), BAD);
        dueReason(x, 2, 9);
        due(x.goodOf(12, 11), NONE);
        due(x.goodOf(-1, -1), NONE);
        due(x.favour(5, 101), NONE);
        due(x.favour(-1, -1), NONE);
        due(x.append(31), BAD);
        due(x.append(127), BAD);
        SilkTariff y = furnished();
        due(y.work(3, 5, 1), NONE);
        due(y.work(3, 0, 0), BAD);
        due(y.work(2, 0, 100), BAD);
    }

    private static void firstReason() {
        says("Terms", "Something is refused for the first of the reasons that its method names, in the order in which it names them, with a "
            + "detail");
        SilkTariff x = full();
        due(x.heading(18, 0, 0, 0, 0), REFUSED);
        dueReason(x, 2, 18);
        due(x.heading(17, 0, 0, 0, 0), REFUSED);
        dueReason(x, 1, 10);
        due(x.work(7, 0, 1), REFUSED);
        dueReason(x, 1, 6);
        due(x.export(7), 0);
        due(x.work(7, 0, 1), REFUSED);
        dueReason(x, 3, 2);
        due(x.enter(7), REFUSED);
        dueReason(x, 3, 2);
        due(x.good(0, 1, 1, 0, 0, 0), REFUSED);
        dueReason(x, 1, 12);
        SilkTariff y = new SilkTariff();
        y.good(0, 1, 100, 0, 0, 0);
        y.good(0, 1, 100, 0, 0, 0);
        due(y.enter(1), REFUSED);
        dueReason(y, 4, 1);
        due(y.enter(0), REFUSED);
        dueReason(y, 4, 0);
        y.export(1);
        due(y.enter(1), REFUSED);
        dueReason(y, 3, 2);
        y.work(0, 0, 1);
        due(y.enter(0), REFUSED);
        dueReason(y, 5, 30);
        y.coins(30);
        y.enter(0);
        due(y.enter(0), REFUSED);
        dueReason(y, 3, 1);
        due(y.work(0, 0, 1), REFUSED);
        dueReason(y, 3, 1);
        for (int time = 0; time < 2; time++) {
            due(run(y, "enter 0"), REFUSED);
            dueReason(y, 6, 0);
        }
        due(run(y, "day 1;enter 0"), REFUSED);
        dueReason(y, 6, 1);
        says("Promise 27", "Returns the number; NOTHING if nothing was refused.");
        SilkTariff none = new SilkTariff();
        dueReason(none, NOTHING, NOTHING);
        none.heading(0, 0, 0, 0, 0);
        none.enter(0);
        none.append(0);
        none.run();
        none.undo();
        none.days(1);
        dueReason(none, NOTHING, NOTHING);
        none.good(0, 1, 1, 0, 0, 0);
        none.enter(0);
        dueReason(none, 4, 0);
        none.work(0, 0, 1);
        due(none.enter(0), 0);
        dueReason(none, 4, 0);
        none.days(0);
        none.enter(12);
        dueReason(none, 4, 0);
    }

    private static void accounts() {
        says("Promise 28", "Returns the account; BAD if what is not from 0 to 13.");
        for (int what : new int[] {-1, -2, 14, 15, 256, 256 + 13, 65536, -256, LOW, HIGH}) {
            due(new SilkTariff().account(what), BAD);
            due(full().account(what), BAD);
        }
        int[] most = {0, 10, 12, 12, 0, 0, 1, 1, 0, 0, 72, 0, 60, 8};
        // good 2 paid 20 coins less 2, and so did good 3, to which 16 came back
        int[] some = {7, 2, 5, 2, 1, 2, 80, 100, 36, 16, 3, 8, 9, 8};
        SilkTariff x = full();
        SilkTariff y = furnished();
        for (int what = 0; what <= 13; what++) {
            due(new SilkTariff().account(what), 0);
            due(x.account(what), most[what]);
            due(y.account(what), some[what]);
        }
        for (int left = 7; left >= 0; left--) {
            due(y.undo(), left);
            due(y.account(3) + y.account(4) + y.account(5), 5);
        }
    }

    private static void shares() {
        says("Promise 30", "Returns the mean; 0.0 without goods.");
        dueReal(new SilkTariff().meanDuty(), 0.0);
        SilkTariff x = new SilkTariff();
        x.heading(5, 3, 0, 0, 1);
        dueReal(x.meanDuty(), 0.0);
        int sum = 0;
        for (int good = 0; good < 12; good++) {
            x.good(0, 1 + good * good % 7, 1, 0, 0, 0);
            sum += 1 + good * good % 7;
            dueReal(x.meanDuty(), (double) sum / (double) (good + 1));
        }
        x.export(3);
        dueReal(x.meanDuty(), (double) sum / 12.0);
        SilkTariff undone = new SilkTariff();
        undone.good(0, 1, 100, 0, 0, 0);
        dueReal(undone.meanDuty(), 30.0);
        undone.undo();
        dueReal(undone.meanDuty(), 0.0);
        says("Promise 31", "Returns the share; 0.0f if none were paid.");
        SilkTariff y = new SilkTariff();
        dueReal(y.backShare(), 0.0f);
        y.good(0, 1, 1, 0, 0, 0);
        y.good(0, 1, 100, 0, 0, 0);
        y.good(0, 1, 100, 0, 0, 0);
        y.work(0, 0, 1);
        y.work(1, 0, 1);
        y.coins(99);
        y.enter(0);
        y.export(0);
        dueReal(y.backShare(), 0.0f);
        y.export(2);
        dueReal(y.backShare(), 0.0f);
        y.enter(1);
        dueReal(y.backShare(), 0.0f);
        y.export(1);
        dueReal(y.backShare(), 27.0f / 30.0f);
        y.undo();
        dueReal(y.backShare(), 0.0f);
        y.undo();
        dueReal(y.backShare(), 0.0f);
    }

    /** Each kind of change, also such by which nothing is different, on a house with a heading 40 and goods 0 to 2. */
    private static int change(SilkTariff x, int kind) {
        switch (kind) {
            case 0: return x.heading(7, 3, 0, 60, 20);
            case 1: return x.strike(40);
            case 2: return x.good(2, 99, 999, 0, 100, 0);
            case 3: return x.work(1, 4, 99);
            case 4: return x.favour(3, 10);
            case 5: return x.favour(0, 0);
            case 6: return x.coins(9999);
            case 7: return x.enter(0);
            case 8: return x.export(2);
            case 9: return x.export(1);
            case 10: return x.days(99);
            case 11: return run(x, "favour 0=0");
            case 12: return run(x, "coins 5;enter 0;day 2;export 0;strike 40;head 40 ** 1 1");
            default: return x.favour(3, 100);
        }
    }

    private static final int KINDS = 14;

    private static Supplier<SilkTariff> wiped() {
        return then(() -> furnished(), x -> x.run());
    }

    private static void everyChange() {
        says("Terms", "The changes are the successful calls of heading, strike, good, work, favour, coins, enter, export, days and run, also "
            + "those by which nothing is different.");
        for (int kind = 0; kind < KINDS; kind++) {
            int which = kind;
            SilkTariff x = new SilkTariff();
            x.heading(40, 0, 0, 0, 0);
            x.good(0, 1, 1, 0, 0, 0);
            x.good(0, 1, 1, 0, 0, 0);
            x.good(0, 1, 1, 0, 0, 0);
            x.work(0, 0, 1);
            due(x.account(13), 5);
            dueTaken(change(x, kind));
            due(x.account(13), 6);
            due(x.undo(), 5);
            // as it was, with one change less that can be undone
            Supplier<SilkTariff> undone = then(wiped(), y -> {
                y.days(1);
                change(y, which);
                y.undo();
            });
            List<String> before = stateOf(then(wiped(), y -> y.days(1)));
            before.replaceAll(each -> each.equals("account(13) 8") ? "account(13) 7" : each);
            dueAlike(stateOf(undone), before);
        }
        SilkTariff looks = new SilkTariff();
        looks.good(0, 1, 1, 0, 0, 0);
        looks.save();
        looks.tell(0);
        looks.tellHeading(99);
        looks.append(65);
        looks.run();
        looks.ranked(0);
        looks.goodOf(0, 7);
        looks.enter(0);
        due(looks.account(13), 1);
    }

    private static void latestEight() {
        says("Terms", "The latest 8 can be undone.");
        for (int changes = 0; changes <= 30; changes++) {
            SilkTariff x = new SilkTariff();
            for (int day = 0; day < changes; day++) {
                x.days(1);
                due(x.account(13), Math.min(day + 1, 8));
            }
            int left = Math.min(changes, 8);
            for (int undone = 1; undone <= left; undone++) {
                due(x.undo(), left - undone);
                due(x.account(0), changes - undone);
                due(x.account(13), left - undone);
            }
            due(x.undo(), NOTHING);
            due(x.undo(), NOTHING);
            due(x.account(0), changes - left);
            due(x.account(13), 0);
            due(x.days(1), changes - left + 1);
            due(x.undo(), 0);
            due(x.undo(), NOTHING);
        }
        says("Promise 32", "Returns the number of changes that can still be undone; NOTHING if there is none.");
        due(new SilkTariff().undo(), NOTHING);
        // changes and undoing in turn, far around all that is kept
        SilkTariff x = new SilkTariff();
        int day = 0;
        for (int turn = 0; turn < 20; turn++) {
            for (int time = 0; time < 9; time++) {
                x.days(1);
            }
            for (int time = 0; time < 8; time++) {
                due(x.undo(), 7 - time);
            }
            due(x.undo(), NOTHING);
            day++;
            due(x.account(0), day);
        }
        // a run is one change, however many orders it has
        SilkTariff y = new SilkTariff();
        due(run(y, "day 1;day 1;day 1;day 1;day 1;day 1;day 1;day 1;day 1;day 1"), 10);
        due(y.account(13), 1);
        due(y.undo(), 0);
        due(y.account(0), 0);
        // what was undone is not there again
        y.coins(5);
        y.undo();
        due(y.undo(), NOTHING);
        due(y.account(7), 0);
    }

    private static void undoneToNothing() {
        says("Promise 32", "Undoes the latest change.");
        for (int kind = 0; kind < KINDS; kind++) {
            int which = kind;
            // after every step back, the house is as it was before that change
            Supplier<SilkTariff> house = then(wiped(), y -> y.days(3));
            for (int steps = 1; steps <= 3; steps++) {
                int back = steps;
                Supplier<SilkTariff> later = then(house, y -> {
                    y.work(1, 2, 1);
                    y.good(1, 1, 1, 0, 0, 0);
                    change(y, which);
                    for (int time = 0; time < back; time++) {
                        y.undo();
                    }
                });
                Supplier<SilkTariff> earlier = then(house, y -> {
                    if (back < 3) {
                        y.work(1, 2, 1);
                    }
                    if (back < 2) {
                        y.good(1, 1, 1, 0, 0, 0);
                    }
                });
                List<String> want = stateOf(earlier);
                String left = "account(13) " + (8 - back);
                want.replaceAll(each -> each.startsWith("account(13)") ? left : each);
                dueAlike(stateOf(later), want);
            }
        }
    }

    private static void whatStays() {
        says("Terms", "The text, the line, the reason and its detail are neither undone nor saved, and stay.");
        SilkTariff x = new SilkTariff();
        x.good(0, 1, 100, 0, 0, 0);
        x.save();
        x.heading(5, 3, 0, 7, 0);
        x.enter(0);
        x.tell(0);
        typed(x, "day 1");
        x.undo();
        dueReason(x, 4, 0);
        dueText(line(x), "0tl100=5");
        due(x.account(12), 5);
        x.restore();
        dueReason(x, 4, 0);
        dueText(line(x), "0tl100=5");
        due(x.account(12), 5);
        due(x.run(), 1);
        due(x.account(0), 1);
        due(x.undo(), 0);
        due(x.account(12), 0);
        typed(x, "da");
        x.save();
        typed(x, "y 9");
        x.restore();
        due(x.account(12), 5);
        due(x.run(), 1);
        due(x.account(0), 9);
        x.restore();
        due(x.account(12), 0);
    }

    private static void snapshots() {
        says("Promise 33", "Returns the day.");
        SilkTariff x = new SilkTariff();
        due(x.save(), 0);
        x.days(99);
        due(x.save(), 99);
        due(x.account(13), 1);
        says("Promise 33", "Saves all that changes can change, in place of an earlier snapshot.");
        due(x.undo(), 0);
        due(x.account(0), 0);
        due(x.restore(), 99);
        due(x.undo(), NOTHING);
        due(x.save(), 99);
        due(x.days(1), 100);
        due(x.restore(), 99);
        for (int kind = 0; kind < KINDS; kind++) {
            int which = kind;
            List<String> before = stateOf(wiped());
            before.replaceAll(each -> each.startsWith("account(13)") ? "account(13) 0" : each);
            Supplier<SilkTariff> restored = then(wiped(), y -> {
                y.save();
                change(y, which);
                y.restore();
            });
            dueAlike(stateOf(restored), before);
            says("Promise 34", "Restores the snapshot, which stays. Nothing can be undone then.");
            Supplier<SilkTariff> often = then(restored, y -> {
                for (int time = 0; time < 3; time++) {
                    change(y, which);
                    y.days(1);
                    y.undo();
                    y.restore();
                    y.undo();
                }
            });
            dueAlike(stateOf(often), before);
        }
        says("Promise 34", "Returns the day; NOTHING if there is no snapshot.");
        SilkTariff none = new SilkTariff();
        due(none.restore(), NOTHING);
        none.days(4);
        due(none.restore(), NOTHING);
        due(none.account(0), 4);
        due(none.account(13), 1);
        due(none.undo(), 0);
        due(none.restore(), NOTHING);
        due(none.save(), 0);
        due(none.restore(), 0);
        SilkTariff after = new SilkTariff();
        after.days(5);
        after.save();
        after.days(5);
        due(after.restore(), 5);
        due(after.undo(), NOTHING);
        for (int day = 6; day <= 14; day++) {
            after.days(1);
        }
        for (int left = 7; left >= 0; left--) {
            due(after.undo(), left);
        }
        due(after.account(0), 6);
        due(after.undo(), NOTHING);
        due(after.restore(), 5);
    }

    private static void fullSnapshot() {
        says("Promise 34", "Restores the snapshot, which stays.");
        Supplier<SilkTariff> house = () -> full();
        List<String> before = stateOf(house);
        before.replaceAll(each -> each.startsWith("account(13)") ? "account(13) 0" : each);
        Supplier<SilkTariff> emptied = then(house, x -> {
            due(x.save(), 0);
            for (int place = 0; place < 10; place++) {
                x.strike(x.code(0));
            }
            x.coins(9999);
            for (int good = 0; good < 12; good++) {
                x.enter(good);
                x.export(good);
            }
            x.days(99);
            x.restore();
        });
        dueAlike(stateOf(emptied), before);
        // full saves the empty house first; its text and line stay
        Supplier<SilkTariff> bare = then(house, x -> x.restore());
        List<String> want = stateOf(then(() -> empty(), x -> {
            x.heading(90, 0, 2, 10, 10);
            x.tellHeading(90);
            x.strike(90);
            typed(x, "day 99;day 99;day 99;day 99;day 99;day 99;day 99;day 99;day ");
        }));
        want.replaceAll(each -> each.startsWith("account(13)") ? "account(13) 0" : each);
        dueAlike(stateOf(bare), want);
        SilkTariff again = bare.get();
        for (int good = 0; good < 12; good++) {
            due(again.good(0, 1, 1, 0, 0, 0), good);
            due(again.goodOf(good, 5), NOTHING);
            due(again.goodOf(good, 10), NOTHING);
            due(again.points(good, 1), 0);
            due(again.work(good, 1, 1), 1);
        }
    }

    public static void main(String[] args) {
        codesOfEmptyHouse();
        codesOfFurnishedHouse();
        codesOfFullHouse();
        firstCode();
        firstReason();
        accounts();
        shares();
        everyChange();
        latestEight();
        undoneToNothing();
        whatStays();
        snapshots();
        fullSnapshot();
        end();
    }
}
