// The edges that the sentences on headings, goods, origins and duties name: the last number that is taken and
// the first that is not, the empty house and the full one.
public final class EdgeTest extends Checks {
    private static SilkTariff withGood() {
        SilkTariff x = new SilkTariff();
        x.good(1, 10, 100, 0, 0, 0);
        return x;
    }

    /** A heading and a good that have a duty of so many coins, by weight alone. */
    private static SilkTariff withDuty(int duty) {
        SilkTariff x = new SilkTariff();
        x.heading(1, 3, 0, 0, duty > 99 ? 2 : 1);
        x.good(0, duty > 99 ? duty / 2 : duty, 1, 0, 0, 0);
        x.work(0, 2, 1);
        return x;
    }

    private static SilkTariff fullHouse() {
        SilkTariff x = new SilkTariff();
        for (int code = 1; code <= 10; code++) {
            x.heading(code * 9, code % 5, code % 4, code, code);
        }
        for (int good = 0; good < 12; good++) {
            x.good(good % 3, 1 + good, 100 + good, good, 2 * good, 3 * good);
        }
        return x;
    }

    private static void lastCalls() {
        says("What it is", "An object is used for at most 512 calls after it has been made");
        SilkTariff x = new SilkTariff();
        SilkTariff y = new SilkTariff();
        for (int call = 1; call <= 511; call++) {
            due(x.coins(9999), 9999 * call);
            due(y.days(99), 99 * call);
        }
        due(x.account(7), 9999 * 511);
        due(y.account(0), 99 * 511);
        SilkTariff z = new SilkTariff();
        for (int call = 1; call <= 503; call++) {
            z.days(1);
        }
        for (int left = 7; left >= 0; left--) {
            due(z.undo(), left);
        }
        due(z.account(0), 495);
        SilkTariff last = new SilkTariff();
        for (int call = 1; call <= 505; call++) {
            last.days(1);
        }
        typed(last, "day 99");
        due(last.run(), 1);
    }

    private static void newHouse() {
        says("Promise 1", "Creates a custom house with the heading 99 alone, on the day 0.");
        SilkTariff x = new SilkTariff();
        due(x.code(0), 99);
        due(x.code(1), NONE);
        for (int what = 0; what <= 13; what++) {
            due(x.account(what), 0);
        }
        due(x.isBalanced(), 1);
        due(x.goodOf(0, 0), NONE);
        due(x.ranked(0), NONE);
        due(x.character(0), NONE);
        due(x.undo(), NOTHING);
        due(x.restore(), NOTHING);
        due(x.run(), -1000);
        dueReason(x, NOTHING, NOTHING);
        SilkTariff full = fullHouse();
        SilkTariff other = new SilkTariff();
        due(other.account(1), 0);
        due(other.account(2), 0);
        due(full.account(2), 12);
    }

    private static void roundedDown() {
        says("Terms", "All numbers are whole, but two, and are rounded down if nothing else is said.");
        // worth, rate, and the duty by value: just below a whole coin, and just on it
        int[][] duties = {{1, 60, 0}, {2, 60, 1}, {99, 1, 0}, {100, 1, 1}, {199, 1, 1}, {200, 1, 2}, {33, 3, 0}, {34, 3, 1},
            {999, 60, 599}, {999, 1, 9}, {999, 0, 0}, {1, 0, 0}, {4, 20, 0}, {5, 20, 1}};
        for (int[] each : duties) {
            SilkTariff x = new SilkTariff();
            x.heading(7, 3, 0, each[1], 0);
            x.good(0, 1, each[0], 0, 0, 0);
            due(x.goodOf(0, 7), each[2]);
            due(x.would(0, 4), each[2]);
        }
    }

    private static void tenHeadings() {
        says("Terms", "At most 10 headings are set up");
        SilkTariff x = new SilkTariff();
        for (int code = 1; code <= 10; code++) {
            due(x.heading(code, 4, 3, 0, 0), code);
        }
        due(x.heading(11, 4, 3, 0, 0), REFUSED);
        dueReason(x, 1, 10);
        due(x.account(1), 10);
        due(x.headingOf(11, 0), NONE);
        due(x.code(9), 10);
        due(x.code(10), 99);
        due(x.code(11), NONE);
        due(x.strike(1), 9);
        due(x.heading(11, 4, 3, 0, 0), 10);
        due(x.heading(12, 4, 3, 0, 0), REFUSED);
        due(x.undo(), 7);
        due(x.heading(98, 4, 3, 0, 0), 10);
        due(x.code(9), 98);
        due(x.heading(1, 4, 3, 0, 0), REFUSED);
        dueReason(x, 1, 10);
        says("Promise 2", "Returns how many headings there are then, without the heading 99; BAD if a number is out of range; "
            + "REFUSED for the reason 2 or 1.");
        due(x.heading(98, 4, 3, 0, 0), REFUSED);
        dueReason(x, 2, 98);
        due(new SilkTariff().heading(50, 0, 0, 0, 0), 1);
        due(x.heading(99, 4, 3, 30, 0), BAD);
        dueReason(x, 2, 98);
    }

    private static void headingRanges() {
        says("Terms", "each with a code from 1 to 98");
        range(1, 98, BAD, code -> new SilkTariff().heading(code, 0, 0, 0, 0));
        says("Terms", "with a fibre, 0 silk, 1 wool, 2 cotton, 3 linen, or 4, any");
        range(0, 4, BAD, fibre -> new SilkTariff().heading(1, fibre, 0, 0, 0));
        says("Terms", "with a form, 0 thread, 1 cloth, 2 garment, or 3, any");
        range(0, 3, BAD, form -> new SilkTariff().heading(1, 0, form, 0, 0));
        says("Terms", "with a rate from 0 to 60");
        range(0, 60, BAD, rate -> new SilkTariff().heading(1, 0, 0, rate, 0));
        says("Terms", "with coins for a kilo, 0 to 20");
        range(0, 20, BAD, perKilo -> new SilkTariff().heading(1, 0, 0, 0, perKilo));
        SilkTariff x = new SilkTariff();
        x.heading(1, 0, 0, 0, 0);
        x.heading(98, 4, 3, 60, 20);
        int[][] numbers = {{0, 0, 0, 0}, {4, 3, 60, 20}};
        for (int what = 0; what < 4; what++) {
            due(x.headingOf(1, what), numbers[0][what]);
            due(x.headingOf(98, what), numbers[1][what]);
        }
    }

    private static void noTwoCodes() {
        says("Terms", "no two with the same");
        for (int code : new int[] {1, 2, 50, 97, 98}) {
            SilkTariff x = new SilkTariff();
            due(x.heading(code, 0, 1, 2, 3), 1);
            due(x.heading(code, 0, 1, 2, 3), REFUSED);
            due(x.heading(code, 4, 3, 60, 20), REFUSED);
            dueReason(x, 2, code);
            due(x.account(1), 1);
            due(x.headingOf(code, 2), 2);
            x.strike(code);
            due(x.heading(code, 4, 3, 60, 20), 1);
            due(x.headingOf(code, 2), 60);
        }
    }

    private static void dueLastHeading(SilkTariff x) {
        int[] numbers = {4, 3, 30, 0};
        for (int what = 0; what < 4; what++) {
            due(x.headingOf(99, what), numbers[what]);
        }
        due(x.code(x.account(1)), 99);
        due(x.code(x.account(1) + 1), NONE);
        due(x.strike(99), NONE);
        due(x.heading(99, 4, 3, 30, 0), BAD);
    }

    private static void lastHeading() {
        says("Terms", "The heading 99 is always there besides, for any fibre and form, with the rate 30 and no coins for a kilo.");
        SilkTariff x = new SilkTariff();
        dueLastHeading(x);
        x = fullHouse();
        dueLastHeading(x);
        x.save();
        x.undo();
        dueLastHeading(x);
        x.restore();
        dueLastHeading(x);
        for (int place = 0; place < 10; place++) {
            x.strike(x.code(0));
        }
        due(x.account(1), 0);
        dueLastHeading(x);
        x.coins(999);
        due(run(x, "head 99 ** 30 0"), REFUSED);
        due(run(x, "strike 99"), REFUSED);
        dueLastHeading(x);
    }

    private static void struckHeadings() {
        says("Promise 3", "Returns how many headings there are then, without the heading 99; NONE if there is no such heading, or it is 99.");
        SilkTariff x = new SilkTariff();
        due(x.strike(99), NONE);
        due(x.strike(1), NONE);
        for (int code = 0; code < 10; code++) {
            x.heading(98 - code, 0, 0, code, 0);
        }
        due(x.strike(88), NONE);
        due(x.strike(99), NONE);
        due(x.strike(100), NONE);
        due(x.strike(LOW), NONE);
        due(x.strike(HIGH), NONE);
        due(x.strike(98 + 256), NONE);
        due(x.account(1), 10);
        // the first one of the order, the last one, one between, and then the rest
        int[] struck = {89, 98, 93, 90, 97, 91, 96, 92, 95, 94};
        for (int number = 0; number < 10; number++) {
            due(x.strike(struck[number]), 9 - number);
            due(x.strike(struck[number]), NONE);
            due(x.headingOf(struck[number], 2), NONE);
        }
        due(x.code(0), 99);
        due(x.heading(94, 1, 1, 7, 7), 1);
        due(x.headingOf(94, 2), 7);
    }

    private static void headingNumbers() {
        says("Promise 4", "Returns the number; NONE if there is no such heading; BAD if what is not from 0 to 4.");
        range(0, 4, BAD, what -> new SilkTariff().headingOf(99, what));
        SilkTariff x = new SilkTariff();
        x.heading(50, 1, 2, 3, 4);
        for (int code : new int[] {49, 51, 0, 98, 100, -1, LOW, HIGH, 50 + 256, 50 + 65536, 50 - 256}) {
            due(x.headingOf(code, 0), NONE);
            due(x.headingOf(code, 4), NONE);
        }
        due(x.headingOf(50, 4), 0);
        for (int good = 1; good <= 12; good++) {
            x.good(2, 1, 1, 0, 100, 0);
            due(x.headingOf(50, 4), good);
            due(x.headingOf(99, 4), 0);
        }
        says("Promise 4", "4 for the goods that have it now, however they are");
        x.work(0, 1, 1);
        x.coins(9);
        x.enter(0);
        x.export(1);
        due(x.headingOf(50, 4), 12);
        x.strike(50);
        due(x.headingOf(99, 4), 12);
        due(x.headingOf(50, 4), NONE);
    }

    private static void codesByPlace() {
        says("Promise 5", "Returns the code; NONE if there is no such place.");
        for (int[] codes : new int[][] {{}, {1}, {98, 1}, {98, 97, 96, 95, 94, 93, 92, 91, 90, 89}, {1, 2, 3, 4, 5, 6, 7, 8, 9, 10},
            {50, 1, 98, 49, 51, 2, 97, 52, 48, 3}}) {
            SilkTariff x = new SilkTariff();
            for (int code : codes) {
                x.heading(code, 0, 0, 0, 0);
            }
            int[] sorted = codes.clone();
            java.util.Arrays.sort(sorted);
            for (int place = 0; place < sorted.length; place++) {
                due(x.code(place), sorted[place]);
            }
            due(x.code(sorted.length), 99);
            for (int place : new int[] {sorted.length + 1, -1, -2, 11, 256, LOW, HIGH}) {
                due(x.code(place), NONE);
            }
        }
    }

    private static void twelveGoods() {
        says("Terms", "At most 12 goods come, numbered from 0");
        SilkTariff x = new SilkTariff();
        due(x.account(2), 0);
        for (int good = 0; good < 12; good++) {
            due(x.goodOf(good, 0), NONE);
            due(x.good(good % 3, 1 + good, 1 + good, 0, 0, 0), good);
            due(x.account(2), good + 1);
        }
        due(x.good(0, 1, 1, 0, 0, 0), REFUSED);
        dueReason(x, 1, 12);
        due(x.goodOf(12, 0), NONE);
        due(x.goodOf(11, 1), 12);
        x.export(0);
        due(x.good(0, 1, 1, 0, 0, 0), REFUSED);
        dueReason(x, 1, 12);
        due(x.undo(), 7);
        due(x.undo(), 6);
        due(x.goodOf(11, 0), NONE);
        says("Promise 6", "Returns its number; BAD if a number or the sum of parts is out of range; REFUSED for the reason 1.");
        due(x.good(2, 99, 999, 0, 0, 101), BAD);
        due(x.good(2, 99, 999, 0, 0, 100), 11);
        due(x.good(2, 99, 999, 0, 0, 100), REFUSED);
        dueReason(x, 1, 12);
    }

    private static void goodRanges() {
        says("Terms", "each of a form from 0 to 2");
        range(0, 2, BAD, form -> new SilkTariff().good(form, 1, 1, 0, 0, 0));
        says("Terms", "of 1 to 99 kilos");
        range(1, 99, BAD, kilos -> new SilkTariff().good(0, kilos, 1, 0, 0, 0));
        says("Terms", "worth 1 to 999 coins");
        range(1, 999, BAD, coins -> new SilkTariff().good(0, 1, coins, 0, 0, 0));
        says("Terms", "of parts of silk, wool and cotton in hundredths");
        range(0, 100, BAD, silk -> new SilkTariff().good(0, 1, 1, silk, 0, 0));
        range(0, 100, BAD, wool -> new SilkTariff().good(0, 1, 1, 0, wool, 0));
        range(0, 100, BAD, cotton -> new SilkTariff().good(0, 1, 1, 0, 0, cotton));
        says("Terms", "of which the sum is 100 at most; the rest is linen");
        range(0, 40, BAD, silk -> new SilkTariff().good(0, 1, 1, silk, 30, 30));
        range(0, 40, BAD, wool -> new SilkTariff().good(0, 1, 1, 30, wool, 30));
        range(0, 40, BAD, cotton -> new SilkTariff().good(0, 1, 1, 30, 30, cotton));
        // sums that wrap around to one that would be taken, and parts below 0 that would make room
        int[][] wrapped = {{HIGH, HIGH, 2}, {HIGH, HIGH, 100}, {HIGH, 1, LOW}, {LOW, LOW, 0}, {LOW, LOW, 100}, {101, -1, 0}, {-1, 101, 0},
            {0, -1, 101}, {100, 100, -100}, {-1, -1, -1}};
        for (int[] parts : wrapped) {
            due(new SilkTariff().good(0, 1, 1, parts[0], parts[1], parts[2]), BAD);
        }
        // the last ones taken, with the linen that is left
        int[][] taken = {{100, 0, 0, 0}, {0, 100, 0, 0}, {0, 0, 100, 0}, {33, 33, 34, 0}, {33, 33, 33, 1}, {99, 0, 0, 1}, {0, 0, 1, 99},
            {0, 0, 0, 100}};
        SilkTariff x = new SilkTariff();
        for (int good = 0; good < taken.length; good++) {
            due(x.good(0, 1, 1, taken[good][0], taken[good][1], taken[good][2]), good);
            for (int fibre = 0; fibre < 4; fibre++) {
                due(x.part(good, fibre), taken[good][fibre]);
            }
        }
        due(x.good(2, 99, 999, 0, 0, 0), 8);
        due(x.goodOf(8, 0), 2);
        due(x.goodOf(8, 1), 99);
        due(x.goodOf(8, 2), 999);
    }

    private static void chiefFibres() {
        says("Terms", "Its chief fibre is the one with the greatest part, of several the one with the greatest number.");
        // parts of silk, wool and cotton, and the chief fibre: alike, and one hundredth apart on either side
        int[][] chiefs = {{50, 50, 0, 1}, {51, 49, 0, 0}, {49, 51, 0, 1}, {50, 0, 50, 2}, {51, 0, 49, 0}, {49, 0, 51, 2}, {50, 0, 0, 3},
            {51, 0, 0, 0}, {49, 0, 0, 3}, {0, 50, 50, 2}, {0, 51, 49, 1}, {0, 49, 51, 2}, {0, 50, 0, 3}, {0, 51, 0, 1}, {0, 0, 50, 3},
            {0, 0, 51, 2}, {25, 25, 25, 3}, {26, 25, 25, 0}, {26, 26, 24, 1}, {26, 26, 26, 2}, {33, 33, 33, 2}, {34, 33, 33, 0},
            {33, 34, 33, 1}, {33, 33, 34, 2}, {34, 34, 32, 1}, {100, 0, 0, 0}, {0, 100, 0, 1}, {0, 0, 100, 2}, {0, 0, 0, 3}};
        for (int[] each : chiefs) {
            SilkTariff x = new SilkTariff();
            x.good(0, 1, 1, each[0], each[1], each[2]);
            due(x.goodOf(0, 4), each[3]);
            x.heading(10 + each[3], each[3], 3, 0, 0);
            due(x.goodOf(0, 6), 10 + each[3]);
        }
        says("Promise 9", "Returns its part in hundredths; NONE if there is no such good or fibre.");
        range(0, 3, NONE, fibre -> withGood().part(0, fibre));
        range(0, 0, NONE, good -> withGood().part(good, 3));
        range(0, 11, NONE, good -> fullHouse().part(good, 0));
        due(new SilkTariff().part(0, 0), NONE);
        due(withGood().part(0, 4), NONE);
    }

    private static void howGoodsAre() {
        says("Terms", "A good is in bond, 0, as at first; entered, 1; or exported, 2.");
        SilkTariff x = withGood();
        due(x.goodOf(0, 3), 0);
        x.work(0, 1, 1);
        x.coins(30);
        due(x.goodOf(0, 3), 0);
        x.enter(0);
        due(x.goodOf(0, 3), 1);
        x.export(0);
        due(x.goodOf(0, 3), 2);
        says("Terms", "A good exported from bond has neither paid nor drawn back.");
        SilkTariff y = withGood();
        y.work(0, 1, 1);
        y.coins(30);
        due(y.export(0), 0);
        due(y.goodOf(0, 8), 0);
        due(y.goodOf(0, 9), 0);
        due(y.goodOf(0, 10), NOTHING);
        due(y.account(6), 30);
        due(y.account(8), 0);
        due(y.account(9), 0);
    }

    private static void fittingOrder() {
        says("Terms", "A heading fits a good if it is for its chief fibre or any, and for its form or any.");
        for (int fibre = 0; fibre <= 4; fibre++) {
            for (int form = 0; form <= 3; form++) {
                SilkTariff x = new SilkTariff();
                x.good(1, 1, 1, 0, 100, 0);
                x.heading(40, fibre, form, 0, 0);
                boolean isFitting = (fibre == 1 || fibre == 4) && (form == 1 || form == 3);
                due(x.fit(0, 0), isFitting ? 40 : 99);
                due(x.fit(0, 1), isFitting ? 99 : NONE);
                due(x.fit(0, 2), NONE);
            }
        }
        says("Terms", "Of those that fit, one with a fibre is ahead of one for any; of these that are alike in that, one with a form is "
            + "ahead of one for any; of these that are alike in that, too, the one with the greatest code is ahead, the heading 99 behind all.");
        // fibre, form: each is ahead of the next one, whichever of them has the greater code
        int[][] kinds = {{1, 1}, {1, 3}, {4, 1}, {4, 3}};
        for (int first = 0; first < 4; first++) {
            for (int second = 0; second < 4; second++) {
                SilkTariff x = new SilkTariff();
                x.good(1, 1, 1, 0, 100, 0);
                x.heading(1, kinds[first][0], kinds[first][1], 0, 0);
                x.heading(98, kinds[second][0], kinds[second][1], 0, 0);
                boolean isFirst = first < second;
                due(x.fit(0, 0), isFirst ? 1 : 98);
                due(x.fit(0, 1), isFirst ? 98 : 1);
                due(x.fit(0, 2), 99);
                due(x.fit(0, 3), NONE);
                due(x.fitAgain(0), isFirst ? 1 : 98);
            }
        }
        says("Terms", "The good has the first one of this order.");
        SilkTariff x = new SilkTariff();
        x.good(1, 1, 1, 0, 100, 0);
        due(x.goodOf(0, 6), 99);
        for (int kind = 3; kind >= 0; kind--) {
            for (int code = 1; code <= 2; code++) {
                x.heading(10 * (4 - kind) + code, kinds[kind][0], kinds[kind][1], 0, 0);
                due(x.goodOf(0, 6), 10 * (4 - kind) + code);
            }
        }
        says("Terms", "A good has one heading.");
        SilkTariff full = fullHouse();
        int having = 0;
        for (int place = 0; place <= 10; place++) {
            having += full.headingOf(full.code(place), 4);
        }
        due(having, 12);
    }

    private static void fitPlaces() {
        says("Promise 11", "Returns its code; NONE if there is no such good or place.");
        range(0, 0, NONE, place -> withGood().fit(0, place));
        range(0, 0, NONE, good -> withGood().fit(good, 0));
        range(0, 11, NONE, good -> fullHouse().fit(good, 0));
        due(new SilkTariff().fit(0, 0), NONE);
        SilkTariff x = new SilkTariff();
        for (int code = 1; code <= 10; code++) {
            x.heading(code, 4, 3, 0, 0);
        }
        x.good(0, 1, 1, 0, 0, 0);
        for (int place = 0; place <= 9; place++) {
            due(x.fit(0, place), 10 - place);
        }
        due(x.fit(0, 10), 99);
        for (int place : new int[] {11, 12, 256, -1, LOW, HIGH}) {
            due(x.fit(0, place), NONE);
        }
        says("Promise 12", "Returns its code; NONE if there is no such good.");
        range(0, 0, NONE, good -> withGood().fitAgain(good));
        range(0, 11, NONE, good -> fullHouse().fitAgain(good));
        due(new SilkTariff().fitAgain(0), NONE);
        due(withGood().fitAgain(0), 99);
        due(x.fitAgain(0), 10);
        says("Terms", "The heading 99 fits each good, and is told as any other one where headings are told.");
        SilkTariff full = fullHouse();
        for (int good = 0; good < 12; good++) {
            int last = 0;
            while (last < 11 && full.fit(good, last + 1) != NONE) {
                last++;
            }
            due(full.fit(good, last), 99);
            for (int place = last + 1; place <= 12; place++) {
                due(full.fit(good, place), NONE);
            }
        }
        due(full.tellHeading(99), 8);
        dueText(line(full), "99:**30%");
        due(full.headingOf(99, 2), 30);
        SilkTariff bare = withGood();
        bare.tell(0);
        dueText(line(bare), "0cl100=99");
    }

    private static void whyIts() {
        says("Promise 13", "Returns 0 if the heading 99 alone fits; otherwise by what it is ahead of the next one of those that fit: 1 by its "
            + "fibre, 2 by its form, 3 by its code, 4 if the next one is 99 and is behind all for that alone; NONE if there is no such good.");
        range(0, 0, NONE, good -> withGood().why(good));
        range(0, 11, NONE, good -> fullHouse().why(good));
        due(new SilkTariff().why(0), NONE);
        due(withGood().why(0), 0);
        says("Terms", "Why a good has its heading is told of the first two that fit: by the first of fibre, form and code in which they are "
            + "unlike; of the heading 99 and another one for any fibre and any form, that is 4.");
        int[][] kinds = {{1, 1}, {1, 3}, {4, 1}, {4, 3}};
        int[] aheadOfLast = {1, 1, 2, 4};
        // by the kinds of the first one and the second one, the first one never behind
        int[][] whys = {{3, 2, 1, 1}, {0, 3, 1, 1}, {0, 0, 3, 2}, {0, 0, 0, 3}};
        for (int first = 0; first < 4; first++) {
            SilkTariff alone = new SilkTariff();
            alone.good(1, 1, 1, 0, 100, 0);
            alone.heading(98, kinds[first][0], kinds[first][1], 0, 0);
            due(alone.why(0), aheadOfLast[first]);
            for (int second = first; second < 4; second++) {
                SilkTariff x = new SilkTariff();
                x.good(1, 1, 1, 0, 100, 0);
                x.heading(98, kinds[first][0], kinds[first][1], 0, 0);
                x.heading(1, kinds[second][0], kinds[second][1], 0, 0);
                due(x.why(0), whys[first][second]);
                // a third one is behind both, and one that does not fit plays no part
                x.heading(97, 2, 1, 0, 0);
                x.heading(96, 1, 2, 0, 0);
                due(x.why(0), whys[first][second]);
            }
        }
    }

    private static void workings() {
        says("Terms", "There are the countries 0 to 4.");
        range(0, 4, NONE, country -> withGood().work(0, country, 1));
        range(0, 4, NONE, country -> withGood().points(0, country));
        range(0, 4, NONE, country -> new SilkTariff().favour(country, 1));
        range(0, 4, NONE, country -> withGood().would(0, country));
        says("Terms", "at most 6 times each, for 1 to 99 points each time");
        range(1, 99, BAD, points -> withGood().work(0, 0, points));
        SilkTariff x = withGood();
        x.good(0, 1, 1, 0, 0, 0);
        for (int time = 1; time <= 6; time++) {
            due(x.work(0, 4, 100), BAD);
            due(x.work(0, 5, 99), NONE);
            due(x.work(0, 4, 99), 99 * time);
        }
        due(x.work(0, 4, 1), REFUSED);
        dueReason(x, 1, 6);
        due(x.work(0, 0, 1), REFUSED);
        due(x.points(0, 4), 594);
        due(x.points(0, 0), 0);
        due(x.account(10), 6);
        for (int country = 0; country < 5; country++) {
            due(x.work(1, country, 1), 1);
        }
        due(x.work(1, 0, 1), 2);
        due(x.work(1, 0, 1), REFUSED);
        dueReason(x, 1, 6);
        due(x.account(10), 12);
        x.undo();
        due(x.work(1, 3, 9), 10);
        due(x.work(1, 3, 9), REFUSED);
        says("Terms", "A good can be worked on in one country several times.");
        SilkTariff y = withGood();
        due(y.work(0, 2, 1), 1);
        due(y.work(0, 2, 99), 100);
        due(y.work(0, 2, 1), 101);
        SilkTariff full = fullHouse();
        for (int working = 0; working < 72; working++) {
            full.work(working % 12, working % 5, 1);
        }
        due(full.account(10), 72);
        for (int good = 0; good < 12; good++) {
            due(full.work(good, 0, 1), REFUSED);
            dueReason(full, 1, 6);
        }
    }

    private static void workedGoods() {
        says("Promise 7", "Returns the points of the good for this country then; NONE if there is no such good or country; BAD if the points "
            + "are out of range; REFUSED for the reason 3, if it is not in bond, or 1.");
        range(0, 0, NONE, good -> withGood().work(good, 0, 1));
        range(0, 11, NONE, good -> fullHouse().work(good, 0, 1));
        due(new SilkTariff().work(0, 0, 1), NONE);
        SilkTariff x = withGood();
        x.good(0, 1, 1, 0, 0, 0);
        x.work(0, 0, 1);
        x.coins(30);
        x.enter(0);
        due(x.work(0, 0, 1), REFUSED);
        dueReason(x, 3, 1);
        x.export(0);
        due(x.work(0, 0, 1), REFUSED);
        dueReason(x, 3, 2);
        x.export(1);
        due(x.work(1, 0, 1), REFUSED);
        dueReason(x, 3, 2);
        due(x.account(10), 1);
        says("Promise 10", "Returns the points; NONE if there is no such good or country.");
        due(x.points(0, 0), 1);
        due(x.points(1, 4), 0);
        range(0, 0, NONE, good -> withGood().points(good, 0));
        range(0, 11, NONE, good -> fullHouse().points(good, 4));
        due(new SilkTariff().points(0, 0), NONE);
    }

    private static void origins() {
        says("Terms", "The origin of a good is the country with the most points for it, together, of several the one in which it was "
            + "worked on last.");
        // countries and points, and the origin after each working
        int[][][] runs = {
            {{0, 10, 0}, {1, 9, 0}, {1, 1, 1}, {0, 1, 0}, {1, 1, 1}, {2, 11, 2}},
            {{4, 10, 4}, {3, 10, 3}, {2, 10, 2}, {1, 10, 1}, {0, 10, 0}, {4, 1, 4}},
            {{0, 10, 0}, {1, 10, 1}, {2, 9, 1}, {3, 1, 1}, {0, 1, 0}, {1, 1, 1}},
            {{2, 5, 2}, {3, 10, 3}, {2, 4, 3}, {4, 10, 4}, {2, 1, 2}, {3, 1, 3}},
            {{0, 99, 0}, {4, 98, 0}, {4, 1, 4}, {1, 99, 1}, {0, 1, 0}, {4, 99, 4}},
            {{3, 1, 3}, {2, 1, 2}, {3, 1, 3}, {2, 1, 2}, {1, 2, 1}, {0, 1, 1}}};
        for (int[][] run : runs) {
            SilkTariff x = withGood();
            due(x.goodOf(0, 5), NOTHING);
            for (int[] working : run) {
                x.work(0, working[0], working[1]);
                due(x.goodOf(0, 5), working[2]);
            }
            for (int left = 5; left > 0; left--) {
                x.undo();
                due(x.goodOf(0, 5), run[left - 1][2]);
            }
            x.undo();
            due(x.goodOf(0, 5), NOTHING);
        }
        // a refused working is none: it decides no tie
        SilkTariff x = withGood();
        x.work(0, 0, 10);
        x.work(0, 1, 10);
        x.work(0, 2, 1);
        x.work(0, 2, 1);
        x.work(0, 2, 1);
        x.work(0, 2, 1);
        due(x.work(0, 0, 1), REFUSED);
        due(x.goodOf(0, 5), 1);
    }

    private static void duties() {
        says("Terms", "By value, the duty of a good is its coins times the rate of its heading, divided by 100; by weight, its kilos times the "
            + "coins for a kilo; the greater one of both counts.");
        // rate, coins for a kilo, and the duty of 10 kilos worth 100 coins: alike, and one apart on either side
        int[][] duties = {{30, 3, 30}, {31, 3, 31}, {29, 3, 30}, {30, 2, 30}, {30, 4, 40}, {0, 0, 0}, {0, 1, 10}, {1, 0, 1}, {60, 20, 200},
            {60, 5, 60}, {60, 6, 60}, {60, 7, 70}};
        for (int[] each : duties) {
            SilkTariff x = withGood();
            x.heading(5, 3, 1, each[0], each[1]);
            due(x.goodOf(0, 7), each[2]);
        }
        SilkTariff most = new SilkTariff();
        most.heading(5, 4, 3, 60, 20);
        most.good(0, 99, 999, 0, 0, 0);
        most.good(0, 29, 999, 0, 0, 0);
        most.good(0, 1, 1, 0, 0, 0);
        due(most.goodOf(0, 7), 1980);
        due(most.goodOf(1, 7), 599);
        due(most.goodOf(2, 7), 20);
    }

    private static void favours() {
        says("Terms", "No country is favoured at first.");
        for (int country = 0; country < 5; country++) {
            due(new SilkTariff().favour(country, 100), 0);
            due(withGood().would(0, country), 30);
        }
        says("Terms", "as many hundredths of the duty of goods of this origin, rounded down, are taken off");
        // the duty, the hundredths, and what is left of it
        int[][] lefts = {{99, 1, 99}, {100, 1, 99}, {198, 1, 197}, {1, 99, 1}, {1, 100, 0}, {2, 49, 2}, {2, 50, 1}, {2, 99, 1}, {3, 33, 3},
            {3, 34, 2}, {3, 50, 2}, {3, 66, 2}, {3, 67, 1}, {99, 99, 1}, {99, 100, 0}, {99, 0, 99}, {50, 1, 50}, {50, 2, 49}};
        for (int[] each : lefts) {
            SilkTariff x = withDuty(each[0]);
            due(x.would(0, 2), each[0]);
            x.favour(2, each[1]);
            due(x.goodOf(0, 7), each[2]);
            due(x.would(0, 2), each[2]);
            due(x.would(0, 1), each[0]);
            x.coins(999);
            due(x.enter(0), each[2]);
        }
        says("Promise 14", "Returns by how many before; NONE if there is no such country; BAD if the number is out of range.");
        range(0, 100, BAD, hundredths -> new SilkTariff().favour(0, hundredths));
        SilkTariff x = new SilkTariff();
        int[] series = {1, 100, 100, 0, 0, 99};
        int before = 0;
        for (int hundredths : series) {
            due(x.favour(4, hundredths), before);
            due(x.favour(4, 101), BAD);
            due(x.favour(4, -1), BAD);
            before = hundredths;
        }
        due(x.favour(3, 0), 0);
        says("Terms", "A country that is favoured by 0 is not favoured.");
        SilkTariff y = new SilkTariff();
        int set = 0;
        for (int country = 0; country < 5; country++) {
            y.favour(country, 0);
            due(y.account(11), set);
            y.favour(country, 1);
            set += 1 << country;
            due(y.account(11), set);
        }
        due(set, 31);
        for (int country = 0; country < 5; country++) {
            y.favour(country, 100);
            due(y.account(11), set);
            y.favour(country, 0);
            set -= 1 << country;
            due(y.account(11), set);
        }
        says("Terms", "A favour of a country counts for goods that are entered later.");
        SilkTariff z = withDuty(99);
        z.good(0, 99, 1, 0, 0, 0);
        z.work(1, 2, 1);
        z.coins(999);
        due(z.enter(0), 99);
        z.favour(2, 50);
        due(z.goodOf(0, 8), 99);
        due(z.account(6), 900);
        due(z.enter(1), 50);
        z.favour(2, 0);
        due(z.goodOf(1, 8), 50);
        due(z.goodOf(1, 7), 99);
    }

    private static void coins() {
        says("Promise 15", "Returns how many the merchant has then; BAD if the number is out of range.");
        range(1, 9999, BAD, coins -> new SilkTariff().coins(coins));
        SilkTariff x = new SilkTariff();
        due(x.coins(1), 1);
        due(x.coins(9999), 10000);
        due(x.coins(10000), BAD);
        due(x.coins(1), 10001);
        due(x.account(7), 10001);
    }

    private static void entering() {
        says("Terms", "To enter a good in bond, its duty is paid from the coins of the merchant.");
        for (int duty : new int[] {1, 2, 50, 98, 99, 198}) {
            SilkTariff x = withDuty(duty);
            if (duty > 1) {
                due(x.coins(duty - 1), duty - 1);
            }
            due(x.enter(0), REFUSED);
            dueReason(x, 5, 1);
            due(x.goodOf(0, 3), 0);
            due(x.goodOf(0, 8), 0);
            due(x.account(6), duty - 1);
            due(x.coins(1), duty);
            due(x.enter(0), duty);
            due(x.account(6), 0);
            due(x.account(8), duty);
            due(x.goodOf(0, 8), duty);
        }
        says("Promise 16", "Returns the duty that is paid; NONE if there is no such good; REFUSED for the reason 3, if it is not in bond, 4 or 5.");
        SilkTariff y = withDuty(99);
        due(y.enter(0), REFUSED);
        dueReason(y, 5, 99);
        y.favour(2, 100);
        due(y.enter(0), 0);
        due(y.enter(0), REFUSED);
        dueReason(y, 3, 1);
        y.export(0);
        due(y.enter(0), REFUSED);
        dueReason(y, 3, 2);
        due(new SilkTariff().enter(0), NONE);
        SilkTariff unworked = withGood();
        unworked.coins(9999);
        due(unworked.enter(0), REFUSED);
        dueReason(unworked, 4, 0);
        SilkTariff full = fullHouse();
        due(full.enter(11), REFUSED);
        dueReason(full, 4, 11);
        range(0, 0, NONE, good -> {
            SilkTariff x = withDuty(5);
            x.coins(5);
            return x.enter(good);
        });
        says("Terms", "A good that was entered keeps the duty that was paid, whatever the tariff becomes.");
        SilkTariff z = withDuty(99);
        z.coins(999);
        z.enter(0);
        z.strike(1);
        z.heading(2, 3, 0, 60, 20);
        z.favour(2, 7);
        due(z.goodOf(0, 8), 99);
        due(z.account(8), 99);
        due(z.goodOf(0, 7), 1842);
        due(z.export(0), 89);
    }

    private static void exporting() {
        says("Terms", "When a good is exported that was entered at most 30 days ago, nine tenths of the duty that was paid are drawn back.");
        int[][] waits = {{0, 89}, {1, 89}, {29, 89}, {30, 89}, {31, 0}, {32, 0}, {60, 0}, {61, 0}, {99, 0}};
        for (int[] each : waits) {
            for (int before = 0; before <= 50; before += 50) {
                SilkTariff x = withDuty(99);
                x.coins(100);
                if (before > 0) {
                    x.days(before);
                }
                x.enter(0);
                if (each[0] > 0) {
                    x.days(each[0]);
                }
                due(x.export(0), each[1]);
                due(x.goodOf(0, 9), each[1]);
                due(x.goodOf(0, 8), 99);
                due(x.goodOf(0, 10), before);
                due(x.account(9), each[1]);
                due(x.account(6), 1 + each[1]);
            }
        }
        SilkTariff step = withDuty(10);
        step.coins(10);
        step.enter(0);
        for (int day = 1; day <= 30; day++) {
            step.days(1);
        }
        due(step.export(0), 9);
        step.undo();
        step.days(1);
        due(step.export(0), 0);
        // the duty that was paid, and nine tenths of it
        int[][] backs = {{1, 0}, {2, 1}, {9, 8}, {10, 9}, {11, 9}, {19, 17}, {20, 18}, {21, 18}, {99, 89}, {198, 178}};
        for (int[] each : backs) {
            SilkTariff x = withDuty(each[0]);
            x.coins(999);
            x.enter(0);
            due(x.export(0), each[1]);
        }
        says("Terms", "A good that is entered on a day and exported on the same one was entered 0 days ago.");
        SilkTariff same = withDuty(10);
        same.coins(10);
        same.days(99);
        same.enter(0);
        due(same.export(0), 9);
        due(same.goodOf(0, 10), 99);
        says("Promise 17", "Returns the coins that are drawn back; NONE if there is no such good; REFUSED for the reason 3, if it is exported.");
        due(same.export(0), REFUSED);
        dueReason(same, 3, 2);
        due(same.account(9), 9);
        due(new SilkTariff().export(0), NONE);
        range(0, 0, NONE, good -> withGood().export(good));
        range(0, 11, NONE, good -> fullHouse().export(good));
        SilkTariff bond = withGood();
        due(bond.export(0), 0);
        due(bond.export(0), REFUSED);
        dueReason(bond, 3, 2);
    }

    private static void days() {
        says("Promise 18", "Returns the day then; BAD if the number is out of range.");
        range(1, 99, BAD, days -> new SilkTariff().days(days));
        SilkTariff x = new SilkTariff();
        due(x.days(1), 1);
        due(x.days(99), 100);
        due(x.days(100), BAD);
        due(x.days(0), BAD);
        due(x.account(0), 100);
    }

    private static void goodNumbers() {
        says("Promise 8", "Returns the number, 0 for coins if there were none; NONE if there is no such good; BAD if what is not from 0 to 10.");
        for (int what = -2; what <= 12; what++) {
            boolean isNothing = what == 5 || what == 10;
            int got = withGood().goodOf(0, what);
            due(got < 0 ? got : 0, what < 0 || what > 10 ? BAD : isNothing ? NOTHING : 0);
            due(withGood().goodOf(1, what), NONE);
            due(new SilkTariff().goodOf(0, what), NONE);
        }
        for (int what : new int[] {LOW, HIGH, 256, -256, 65536, 10 + 65536}) {
            due(withGood().goodOf(0, what), BAD);
        }
        range(0, 0, NONE, good -> withGood().goodOf(good, 0));
        range(0, 11, NONE, good -> fullHouse().goodOf(good, 6));
        SilkTariff x = withGood();
        due(x.goodOf(0, 8), 0);
        due(x.goodOf(0, 9), 0);
        due(x.goodOf(0, 10), NOTHING);
        says("Promise 8", "5 for its origin, NOTHING if it was never worked on");
        due(x.goodOf(0, 5), NOTHING);
        says("Promise 8", "7 for its duty as the tariff is now, as of no favoured country if it has no origin");
        for (int country = 0; country < 5; country++) {
            x.favour(country, 100);
        }
        due(x.goodOf(0, 7), 30);
        x.work(0, 0, 1);
        due(x.goodOf(0, 7), 0);
        due(x.goodOf(0, 5), 0);
        says("Promise 8", "10 for the day on which it was entered, NOTHING if it never was");
        x.enter(0);
        due(x.goodOf(0, 10), 0);
        due(x.goodOf(0, 8), 0);
        x.undo();
        due(x.goodOf(0, 10), NOTHING);
        x.days(5);
        x.enter(0);
        x.days(5);
        x.export(0);
        due(x.goodOf(0, 10), 5);
    }

    private static void wouldBe() {
        says("Promise 19", "Returns the duty as the tariff is now; NONE if there is no such good or country.");
        range(0, 0, NONE, good -> withGood().would(good, 4));
        range(0, 11, NONE, good -> fullHouse().would(good, 4));
        due(new SilkTariff().would(0, 0), NONE);
        due(withGood().would(1, 5), NONE);
        SilkTariff x = withDuty(99);
        for (int country = 0; country < 5; country++) {
            x.favour(country, 25 * country);
        }
        int[] duties = {99, 75, 50, 25, 0};
        for (int country = 0; country < 5; country++) {
            due(x.would(0, country), duties[country]);
        }
        says("Promise 20", "Returns the country, of several the lowest; NONE if there is no such good.");
        range(0, 0, NONE, good -> withGood().cheapest(good));
        range(0, 11, NONE, good -> fullHouse().cheapest(good));
        due(new SilkTariff().cheapest(0), NONE);
        due(withGood().cheapest(0), 0);
        due(x.cheapest(0), 4);
        // favours of the five countries, and the cheapest one for a duty of 99
        int[][] favours = {{0, 0, 0, 0, 0, 0}, {0, 0, 0, 0, 1, 0}, {0, 0, 0, 0, 2, 4}, {0, 2, 2, 2, 2, 1}, {2, 2, 2, 2, 3, 4},
            {1, 0, 1, 0, 1, 0}, {0, 0, 100, 100, 0, 2}, {100, 100, 100, 100, 100, 0}, {50, 51, 52, 53, 53, 3}};
        for (int[] each : favours) {
            SilkTariff y = withDuty(99);
            for (int country = 0; country < 5; country++) {
                y.favour(country, each[country]);
            }
            due(y.cheapest(0), each[5]);
        }
        SilkTariff free = new SilkTariff();
        free.good(0, 1, 1, 0, 0, 0);
        free.favour(4, 100);
        due(free.cheapest(0), 0);
    }

    private static void rankedGoods() {
        says("Promise 21", "Returns the good; NONE if there is no such place.");
        range(0, 0, NONE, place -> withGood().ranked(place));
        range(0, 11, NONE, place -> fullHouse().ranked(place));
        due(new SilkTariff().ranked(0), NONE);
        SilkTariff alike = new SilkTariff();
        for (int good = 0; good < 12; good++) {
            alike.good(0, 1, 50, 0, 0, 0);
        }
        for (int place = 0; place < 12; place++) {
            due(alike.ranked(place), place);
        }
        says("Promise 21", "the most first, of several the one that is worth less, then the lowest");
        // rate 30: the duties are 30, 30, 30, 31, 29 and 30
        int[] worths = {102, 101, 103, 104, 99, 101};
        int[] order = {3, 1, 5, 0, 2, 4};
        SilkTariff x = new SilkTariff();
        for (int worth : worths) {
            x.good(0, 1, worth, 0, 0, 0);
        }
        for (int place = 0; place < 6; place++) {
            due(x.ranked(place), order[place]);
        }
        x.export(3);
        due(x.ranked(0), 3);
        x.favour(1, 100);
        x.work(1, 1, 1);
        due(x.ranked(5), 1);
        due(x.ranked(6), NONE);
    }

    private static void constants() {
        says("Terms", "`NONE = -11`: There is no such number.");
        due(SilkTariff.NONE, -11);
        says("Terms", "`BAD = -12`: A number is out of range.");
        due(SilkTariff.BAD, -12);
        says("Terms", "`FULL = -13`: There is no room for more.");
        due(SilkTariff.FULL, -13);
        says("Terms", "`REFUSED = -14`: It is refused for a reason.");
        due(SilkTariff.REFUSED, -14);
        says("Terms", "`NOTHING = -15`: There is nothing of this kind.");
        due(SilkTariff.NOTHING, -15);
    }

    public static void main(String[] args) {
        lastCalls();
        newHouse();
        roundedDown();
        tenHeadings();
        headingRanges();
        noTwoCodes();
        lastHeading();
        struckHeadings();
        headingNumbers();
        codesByPlace();
        twelveGoods();
        goodRanges();
        chiefFibres();
        howGoodsAre();
        fittingOrder();
        fitPlaces();
        whyIts();
        workings();
        workedGoods();
        origins();
        duties();
        favours();
        coins();
        entering();
        exporting();
        days();
        goodNumbers();
        wouldBe();
        rankedGoods();
        constants();
        end();
    }
}
