import java.util.ArrayList;
import java.util.List;
import java.util.function.Consumer;
import java.util.function.Supplier;

/** What the tests of edges have in common: the sentence that is looked at, and what is due. */
class Checks {
    static final int NONE = SilkTariff.NONE;
    static final int BAD = SilkTariff.BAD;
    static final int FULL = SilkTariff.FULL;
    static final int REFUSED = SilkTariff.REFUSED;
    static final int NOTHING = SilkTariff.NOTHING;
    static final int LOW = Integer.MIN_VALUE;
    static final int HIGH = Integer.MAX_VALUE;

    private static final int MOST_TOLD = 30;

    private static int wrong = 0;
    private static int checks = 0;
    private static String place = "";

    /** A call with one number; it makes the object, so that no answer hangs on an earlier one. */
    interface Call {
        int with(int number);
    }

    /** Names the sentence that the checks from here on are about; SentenceTest looks for it in the document. */
    static void says(String section, String sentence) {
        place = section + ": " + sentence;
    }

    private static void told(String what) {
        wrong++;
        if (wrong <= MOST_TOLD) {
            System.out.println(what + "\n    " + place);
        }
    }

    private static String line() {
        String tests = "";
        for (StackTraceElement each : new Throwable().getStackTrace()) {
            if (!each.getClassName().equals("Checks")) {
                return tests + each.getFileName() + ":" + each.getLineNumber();
            }
        }
        return tests;
    }

    static void due(long got, long want) {
        checks++;
        if (got != want) {
            told(line() + " answered " + got + ", due is " + want);
        }
    }

    static void dueReal(double got, double want) {
        checks++;
        if (!(got == want)) {
            told(line() + " answered " + got + ", due is " + want);
        }
    }

    static void dueText(String got, String want) {
        checks++;
        if (!got.equals(want)) {
            told(line() + " answered '" + got + "', due is '" + want + "'");
        }
    }

    static void dueTaken(int got) {
        checks++;
        if (got < 0) {
            told(line() + " answered " + got + ", due is no code");
        }
    }

    static void dueReason(SilkTariff x, int reason, int detail) {
        due(x.reason(false), reason);
        due(x.reason(true), detail);
    }

    static void dueAlike(List<String> got, List<String> want) {
        checks++;
        for (int i = 0; i < Math.max(got.size(), want.size()); i++) {
            String one = i < got.size() ? got.get(i) : "nothing";
            String other = i < want.size() ? want.get(i) : "nothing";
            if (!one.equals(other)) {
                told(line() + " left " + one + ", due is " + other);
                return;
            }
        }
    }

    /** The first and the last number that are taken, and those outside: next to them, as far as can be, and wrapped around. */
    static void range(int least, int most, int code, Call call) {
        dueTaken(call.with(least));
        dueTaken(call.with(most));
        int[] outside = {least - 1, most + 1, LOW, HIGH, least + 65536, most - 65536, most + 16777216};
        for (int number : outside) {
            due(call.with(number), code);
        }
        for (int step = 256; step <= 1024; step += 256) {
            if (least + step > most) {
                due(call.with(least + step), code);
            }
            due(call.with(least - step), code);
        }
    }

    static SilkTariff typed(SilkTariff x, String text) {
        for (int i = 0; i < text.length(); i++) {
            x.append(text.charAt(i));
        }
        return x;
    }

    static int run(SilkTariff x, String text) {
        return typed(x, text).run();
    }

    static String line(SilkTariff x) {
        StringBuilder line = new StringBuilder();
        for (int i = 0; i < 30 && x.character(i) >= 0; i++) {
            line.append((char) x.character(i));
        }
        return line.toString();
    }

    /**
     * All that can be asked for. No object answers more than 512 calls, so there is one for the house,
     * one for each heading and one for each good.
     */
    static List<String> stateOf(Supplier<SilkTariff> house) {
        List<String> state = new ArrayList<>();
        SilkTariff x = house.get();
        for (int what = 0; what <= 13; what++) {
            state.add("account(" + what + ") " + x.account(what));
        }
        int goods = x.account(2);
        state.add("reason " + x.reason(false) + " " + x.reason(true));
        state.add("line " + line(x));
        state.add("shares " + x.isBalanced() + " " + x.meanDuty() + " " + x.backShare());
        for (int at = 0; at <= 12; at++) {
            state.add("code(" + at + ") " + x.code(at) + ", ranked(" + at + ") " + x.ranked(at));
        }
        for (int at = 0; at <= 10; at++) {
            addHeading(state, house.get(), at);
        }
        for (int good = 0; good <= goods; good++) {
            addGood(state, house.get(), good);
        }
        return state;
    }

    private static void addHeading(List<String> state, SilkTariff x, int at) {
        int code = x.code(at);
        for (int what = 0; what <= 4; what++) {
            state.add("headingOf(" + code + ", " + what + ") " + x.headingOf(code, what));
        }
        x.tellHeading(code);
        state.add("tellHeading(" + code + ") " + line(x));
    }

    private static void addGood(List<String> state, SilkTariff x, int good) {
        for (int what = 0; what <= 10; what++) {
            state.add("goodOf(" + good + ", " + what + ") " + x.goodOf(good, what));
        }
        for (int k = 0; k <= 4; k++) {
            state.add("part, points, would(" + good + ", " + k + ") " + x.part(good, k) + " " + x.points(good, k)
                + " " + x.would(good, k));
        }
        for (int at = 0; at <= 11; at++) {
            state.add("fit(" + good + ", " + at + ") " + x.fit(good, at));
        }
        state.add("fitAgain, why, cheapest(" + good + ") " + x.fitAgain(good) + " " + x.why(good) + " " + x.cheapest(good));
        x.tell(good);
        state.add("tell(" + good + ") " + line(x));
    }

    /** A way to make a house: as another one, and then something more. */
    static Supplier<SilkTariff> then(Supplier<SilkTariff> house, Consumer<SilkTariff> more) {
        return () -> {
            SilkTariff x = house.get();
            more.accept(x);
            return x;
        };
    }

    static void end() {
        System.out.println(wrong == 0 ? "all " + checks + " checks hold" : wrong + " of " + checks + " checks failed");
        if (wrong != 0) {
            System.exit(1);
        }
    }
}
