// For each promise of the document: ordinary inputs, the edges that it names, and wrong inputs.
public final class PromiseTest {
    private static final int NONE = SilkTariff.NONE;
    private static final int BAD = SilkTariff.BAD;
    private static final int FULL = SilkTariff.FULL;
    private static final int REFUSED = SilkTariff.REFUSED;
    private static final int NOTHING = SilkTariff.NOTHING;
    private static final int LOW = Integer.MIN_VALUE;
    private static final int HIGH = Integer.MAX_VALUE;

    private static int wrong = 0;
    private static int promise = 0;
    private static int step = 0;

    private static void start(int number) {
        promise = number;
        step = 0;
    }

    private static void due(long got, long want) {
        step++;
        if (got != want) {
            wrong++;
            StackTraceElement caller = new Throwable().getStackTrace()[1];
            System.out.println("promise " + promise + ", check " + step + " (line " + caller.getLineNumber()
                + ") answered " + got + ", due is " + want);
        }
    }

    private static void dueShare(double got, double want) {
        step++;
        if (got != want) {
            wrong++;
            System.out.println("promise " + promise + ", check " + step + " answered " + got + ", due is " + want);
        }
    }

    private static void dueText(String got, String want) {
        step++;
        if (!got.equals(want)) {
            wrong++;
            System.out.println("promise " + promise + ", check " + step + " answered '" + got + "', due is '" + want + "'");
        }
    }

    private static void type(SilkTariff x, String text) {
        for (int i = 0; i < text.length(); i++) {
            x.append(text.charAt(i));
        }
    }

    private static int run(SilkTariff x, String text) {
        type(x, text);
        return x.run();
    }

    private static String line(SilkTariff x) {
        StringBuilder line = new StringBuilder();
        for (int i = 0; i < 100 && x.character(i) >= 0; i++) {
            line.append((char) x.character(i));
        }
        return line.toString();
    }

    private static void dueReason(SilkTariff x, int reason, int detail) {
        due(x.reason(false), reason);
        due(x.reason(true), detail);
    }

    private static void newObject() {
        start(1);
        SilkTariff x = new SilkTariff();
        int[] accounts = new int[14];
        for (int what = 0; what < 14; what++) {
            due(x.account(what), accounts[what]);
        }
        due(x.code(0), 99);
        due(x.code(1), NONE);
        int[] last = {4, 3, 30, 0, 0};
        for (int what = 0; what < 5; what++) {
            due(x.headingOf(99, what), last[what]);
        }
        due(x.isBalanced(), 1);
        due(x.goodOf(0, 0), NONE);
        due(x.undo(), NOTHING);
        due(x.restore(), NOTHING);
        for (int country = 0; country < 5; country++) {
            due(x.favour(country, 0), 0);
        }
        SilkTariff other = new SilkTariff();
        x.heading(5, 0, 0, 0, 0);
        due(other.account(1), 0);
    }

    private static void heading() {
        start(2);
        SilkTariff x = new SilkTariff();
        due(x.heading(1, 0, 0, 0, 0), 1);
        due(x.heading(98, 4, 3, 60, 20), 2);
        int[][] bad = {{0, 0, 0, 0, 0}, {99, 0, 0, 0, 0}, {-1, 0, 0, 0, 0}, {5, -1, 0, 0, 0}, {5, 5, 0, 0, 0},
            {5, 0, -1, 0, 0}, {5, 0, 4, 0, 0}, {5, 0, 0, -1, 0}, {5, 0, 0, 61, 0}, {5, 0, 0, 0, -1}, {5, 0, 0, 0, 21},
            {LOW, 0, 0, 0, 0}, {HIGH, 0, 0, 0, 0}, {5, LOW, 0, 0, 0}, {5, HIGH, HIGH, HIGH, HIGH}, {1, 0, 0, 61, 0}};
        for (int[] b : bad) {
            due(x.heading(b[0], b[1], b[2], b[3], b[4]), BAD);
        }
        dueReason(x, NOTHING, NOTHING);
        due(x.heading(98, 0, 0, 0, 0), REFUSED);
        dueReason(x, 2, 98);
        due(x.headingOf(98, 0), 4);
        due(x.account(13), 2);
        for (int code = 10; code < 18; code++) {
            due(x.heading(code, 3, 2, 10, 1), code - 7);
        }
        due(x.heading(50, 0, 0, 0, 0), REFUSED);
        dueReason(x, 1, 10);
        due(x.heading(12, 0, 0, 0, 0), REFUSED);
        dueReason(x, 2, 12);
        due(x.heading(1, 0, 0, 0, 0), REFUSED);
        dueReason(x, 2, 1);
        due(x.heading(12, 0, 0, 0, 21), BAD);
        due(x.account(1), 10);
        due(x.account(13), 8);
        due(x.strike(14), 9);
        due(x.heading(14, 0, 1, 2, 3), 10);
        due(x.headingOf(14, 3), 3);
    }

    private static void strike() {
        start(3);
        SilkTariff x = new SilkTariff();
        due(x.strike(99), NONE);
        due(x.strike(5), NONE);
        x.heading(5, 0, 1, 2, 3);
        x.heading(7, 1, 2, 3, 4);
        x.heading(3, 2, 0, 4, 5);
        due(x.strike(5), 2);
        due(x.strike(5), NONE);
        due(x.strike(99), NONE);
        due(x.strike(LOW), NONE);
        due(x.strike(HIGH), NONE);
        due(x.strike(0), NONE);
        due(x.code(0), 3);
        due(x.code(1), 7);
        due(x.code(2), 99);
        due(x.code(3), NONE);
        due(x.headingOf(7, 3), 4);
        due(x.headingOf(99, 2), 30);
        due(x.strike(3), 1);
        due(x.strike(7), 0);
        due(x.account(13), 6);
    }

    private static void headingOf() {
        start(4);
        SilkTariff x = new SilkTariff();
        x.heading(50, 1, 2, 33, 4);
        x.heading(40, 4, 3, 5, 6);
        int[] first = {1, 2, 33, 4, 0};
        int[] second = {4, 3, 5, 6, 0};
        for (int what = 0; what < 5; what++) {
            due(x.headingOf(50, what), first[what]);
            due(x.headingOf(40, what), second[what]);
        }
        x.good(2, 1, 1, 0, 100, 0);
        x.good(2, 1, 1, 0, 60, 0);
        x.good(1, 1, 1, 0, 60, 0);
        due(x.headingOf(50, 4), 2);
        due(x.headingOf(40, 4), 1);
        due(x.headingOf(99, 4), 0);
        x.coins(100);
        x.work(0, 0, 1);
        x.enter(0);
        x.export(1);
        due(x.headingOf(50, 4), 2);
        x.strike(50);
        due(x.headingOf(40, 4), 3);
        x.strike(40);
        due(x.headingOf(99, 4), 3);
        due(x.headingOf(40, 0), NONE);
        due(x.headingOf(40, 9), NONE);
        due(x.headingOf(99, 5), BAD);
        due(x.headingOf(99, -1), BAD);
        due(x.headingOf(99, LOW), BAD);
        due(x.headingOf(99, HIGH), BAD);
        due(x.headingOf(0, 0), NONE);
        due(x.headingOf(100, 0), NONE);
    }

    private static void code() {
        start(5);
        SilkTariff x = new SilkTariff();
        int[] codes = {30, 10, 98, 1, 50, 20};
        for (int code : codes) {
            x.heading(code, 0, 0, 0, 0);
        }
        int[] sorted = {1, 10, 20, 30, 50, 98, 99};
        for (int place = 0; place < 7; place++) {
            due(x.code(place), sorted[place]);
        }
        due(x.code(7), NONE);
        due(x.code(-1), NONE);
        due(x.code(LOW), NONE);
        due(x.code(HIGH), NONE);
    }

    private static void good() {
        start(6);
        SilkTariff x = new SilkTariff();
        int[][] bad = {{-1, 1, 1, 0, 0, 0}, {3, 1, 1, 0, 0, 0}, {0, 0, 1, 0, 0, 0}, {0, 100, 1, 0, 0, 0},
            {0, 1, 0, 0, 0, 0}, {0, 1, 1000, 0, 0, 0}, {0, 1, 1, -1, 0, 0}, {0, 1, 1, 0, -1, 0}, {0, 1, 1, 0, 0, -1},
            {0, 1, 1, 101, 0, 0}, {0, 1, 1, 0, 101, 0}, {0, 1, 1, 0, 0, 101}, {0, 1, 1, 50, 50, 1}, {0, 1, 1, -1, 50, 50},
            {0, 1, 1, HIGH, HIGH, 2}, {0, 1, 1, LOW, LOW, 0}, {LOW, 1, 1, 0, 0, 0}, {0, HIGH, HIGH, 0, 0, 0}};
        for (int[] b : bad) {
            due(x.good(b[0], b[1], b[2], b[3], b[4], b[5]), BAD);
        }
        due(x.good(0, 1, 1, 0, 0, 0), 0);
        due(x.good(2, 99, 999, 100, 0, 0), 1);
        due(x.good(1, 50, 500, 33, 33, 34), 2);
        due(x.goodOf(2, 3), 0);
        for (int number = 3; number < 12; number++) {
            due(x.good(0, 1, number, 0, 0, 0), number);
        }
        due(x.account(2), 12);
        due(x.good(0, 1, 1, 0, 0, 0), REFUSED);
        dueReason(x, 1, 12);
        due(x.good(0, 1, 1, 0, 0, 101), BAD);
        due(x.account(2), 12);
    }

    private static void work() {
        start(7);
        SilkTariff x = new SilkTariff();
        due(x.work(0, 0, 1), NONE);
        x.good(0, 1, 1, 0, 0, 0);
        x.good(0, 1, 1, 0, 0, 0);
        due(x.work(-1, 0, 1), NONE);
        due(x.work(2, 0, 1), NONE);
        due(x.work(0, -1, 1), NONE);
        due(x.work(0, 5, 1), NONE);
        due(x.work(0, 5, 100), NONE);
        due(x.work(LOW, HIGH, 1), NONE);
        due(x.work(0, 0, 0), BAD);
        due(x.work(0, 0, 100), BAD);
        due(x.work(0, 0, LOW), BAD);
        due(x.work(0, 0, HIGH), BAD);
        due(x.work(0, 4, 99), 99);
        due(x.work(0, 4, 99), 198);
        due(x.work(0, 0, 1), 1);
        due(x.work(0, 4, 99), 297);
        due(x.work(0, 0, 5), 6);
        due(x.work(0, 3, 5), 5);
        due(x.account(10), 6);
        due(x.work(0, 3, 5), REFUSED);
        dueReason(x, 1, 6);
        due(x.work(0, 3, 100), BAD);
        due(x.account(10), 6);
        x.export(0);
        due(x.work(0, 3, 5), REFUSED);
        dueReason(x, 3, 2);
        due(x.work(1, 0, 2), 2);
        x.coins(5);
        x.enter(1);
        due(x.work(1, 0, 2), REFUSED);
        dueReason(x, 3, 1);
        due(x.work(1, 0, 0), BAD);
        due(x.points(1, 0), 2);
    }

    private static void goodOf() {
        start(8);
        SilkTariff x = new SilkTariff();
        x.heading(20, 1, 3, 10, 2);
        x.good(2, 30, 900, 40, 40, 20);
        int[] atFirst = {2, 30, 900, 0, 1, NOTHING, 20, 90, 0, 0, NOTHING};
        for (int what = 0; what <= 10; what++) {
            due(x.goodOf(0, what), atFirst[what]);
        }
        x.work(0, 3, 10);
        x.days(7);
        x.favour(3, 15);
        x.coins(100);
        x.enter(0);
        int[] entered = {2, 30, 900, 1, 1, 3, 20, 77, 77, 0, 7};
        for (int what = 0; what <= 10; what++) {
            due(x.goodOf(0, what), entered[what]);
        }
        x.strike(20);
        x.days(1);
        x.export(0);
        int[] exported = {2, 30, 900, 2, 1, 3, 99, 230, 77, 69, 7};
        for (int what = 0; what <= 10; what++) {
            due(x.goodOf(0, what), exported[what]);
        }
        x.good(0, 1, 1, 0, 0, 0);
        x.export(1);
        int[] fromBond = {0, 1, 1, 2, 3, NOTHING, 99, 0, 0, 0, NOTHING};
        for (int what = 0; what <= 10; what++) {
            due(x.goodOf(1, what), fromBond[what]);
        }
        due(x.goodOf(0, 11), BAD);
        due(x.goodOf(0, -1), BAD);
        due(x.goodOf(0, LOW), BAD);
        due(x.goodOf(0, HIGH), BAD);
        due(x.goodOf(2, 11), NONE);
        due(x.goodOf(-1, 0), NONE);
        due(x.goodOf(LOW, 0), NONE);
        due(x.goodOf(HIGH, 0), NONE);
    }

    private static void chiefFibre() {
        start(8);
        SilkTariff x = new SilkTariff();
        int[][] parts = {{100, 0, 0, 0}, {50, 50, 0, 1}, {50, 0, 50, 2}, {50, 0, 0, 3}, {34, 33, 33, 0}, {0, 50, 50, 2},
            {30, 40, 30, 1}, {25, 25, 25, 3}, {0, 0, 0, 3}, {26, 25, 24, 0}, {0, 50, 0, 3}, {10, 20, 40, 2}};
        for (int number = 0; number < parts.length; number++) {
            x.good(0, 1, 1, parts[number][0], parts[number][1], parts[number][2]);
            due(x.goodOf(number, 4), parts[number][3]);
        }
    }

    private static void origin() {
        start(8);
        SilkTariff x = new SilkTariff();
        x.good(0, 1, 1, 0, 0, 0);
        due(x.goodOf(0, 5), NOTHING);
        x.work(0, 2, 10);
        due(x.goodOf(0, 5), 2);
        x.work(0, 4, 9);
        due(x.goodOf(0, 5), 2);
        x.work(0, 4, 1);
        due(x.goodOf(0, 5), 4);
        x.work(0, 0, 10);
        due(x.goodOf(0, 5), 0);
        x.undo();
        due(x.goodOf(0, 5), 4);
        x.work(0, 2, 1);
        due(x.goodOf(0, 5), 2);
        x.good(0, 1, 1, 0, 0, 0);
        x.work(1, 0, 5);
        x.work(1, 1, 10);
        x.work(1, 0, 5);
        due(x.goodOf(1, 5), 0);
        x.good(0, 1, 999, 0, 0, 0);
        x.favour(0, 100);
        due(x.goodOf(2, 7), 299);
    }

    private static void part() {
        start(9);
        SilkTariff x = new SilkTariff();
        x.good(0, 1, 1, 10, 20, 30);
        x.good(0, 1, 1, 0, 100, 0);
        int[] parts = {10, 20, 30, 40};
        int[] wool = {0, 100, 0, 0};
        for (int fibre = 0; fibre < 4; fibre++) {
            due(x.part(0, fibre), parts[fibre]);
            due(x.part(1, fibre), wool[fibre]);
        }
        due(x.part(0, 4), NONE);
        due(x.part(0, -1), NONE);
        due(x.part(2, 0), NONE);
        due(x.part(-1, 0), NONE);
        due(x.part(LOW, HIGH), NONE);
        due(x.part(0, HIGH), NONE);
    }

    private static void points() {
        start(10);
        SilkTariff x = new SilkTariff();
        x.good(0, 1, 1, 0, 0, 0);
        x.good(0, 1, 1, 0, 0, 0);
        x.work(0, 0, 7);
        x.work(0, 4, 8);
        x.work(0, 0, 9);
        x.work(1, 1, 50);
        int[] first = {16, 0, 0, 0, 8};
        int[] second = {0, 50, 0, 0, 0};
        for (int country = 0; country < 5; country++) {
            due(x.points(0, country), first[country]);
            due(x.points(1, country), second[country]);
        }
        due(x.points(0, 5), NONE);
        due(x.points(0, -1), NONE);
        due(x.points(2, 0), NONE);
        due(x.points(-1, 0), NONE);
        due(x.points(HIGH, LOW), NONE);
    }

    private static SilkTariff fullTariff() {
        SilkTariff x = new SilkTariff();
        x.heading(10, 1, 3, 1, 0);
        x.heading(11, 4, 1, 1, 0);
        x.heading(12, 1, 1, 1, 0);
        x.heading(13, 4, 3, 1, 0);
        x.heading(14, 1, 3, 1, 0);
        x.heading(15, 4, 1, 1, 0);
        x.heading(16, 1, 1, 1, 0);
        x.heading(17, 4, 3, 1, 0);
        x.heading(18, 2, 1, 1, 0);
        x.heading(19, 1, 2, 1, 0);
        x.good(1, 1, 1, 0, 100, 0);
        return x;
    }

    private static void fit() {
        start(11);
        SilkTariff x = fullTariff();
        int[] order = {16, 12, 14, 10, 15, 11, 17, 13, 99};
        for (int place = 0; place < order.length; place++) {
            due(x.fit(0, place), order[place]);
        }
        due(x.fit(0, 9), NONE);
        due(x.fit(0, 10), NONE);
        due(x.fit(0, -1), NONE);
        due(x.fit(0, LOW), NONE);
        due(x.fit(0, HIGH), NONE);
        due(x.fit(1, 0), NONE);
        due(x.fit(-1, 0), NONE);
        due(x.goodOf(0, 6), 16);
        x.good(0, 1, 1, 0, 0, 0);
        due(x.fit(1, 0), 17);
        due(x.fit(1, 1), 13);
        due(x.fit(1, 2), 99);
        due(x.fit(1, 3), NONE);
        SilkTariff y = new SilkTariff();
        for (int code = 1; code <= 10; code++) {
            y.heading(code, 4, 3, 0, 0);
        }
        y.good(0, 1, 1, 0, 0, 0);
        for (int at = 0; at < 10; at++) {
            due(y.fit(0, at), 10 - at);
        }
        due(y.fit(0, 10), 99);
        due(y.fit(0, 11), NONE);
    }

    private static void fitAgain() {
        start(12);
        SilkTariff x = fullTariff();
        int[] order = {16, 12, 14, 10, 15, 11, 17, 13};
        for (int code : order) {
            due(x.fitAgain(0), code);
            due(x.fit(0, 0), code);
            x.strike(code);
        }
        due(x.fitAgain(0), 99);
        due(x.fitAgain(1), NONE);
        due(x.fitAgain(-1), NONE);
        due(x.fitAgain(LOW), NONE);
        due(x.fitAgain(HIGH), NONE);
    }

    private static void why() {
        start(13);
        SilkTariff x = fullTariff();
        int[][] steps = {{16, 3}, {12, 1 + 1}, {14, 3}, {10, 1}, {15, 3}, {11, 2}, {17, 3}, {13, 4}, {99, 0}};
        for (int[] each : steps) {
            due(x.fit(0, 0), each[0]);
            due(x.why(0), each[1]);
            x.strike(each[0]);
        }
        due(x.why(1), NONE);
        due(x.why(-1), NONE);
        due(x.why(HIGH), NONE);
        x.heading(5, 1, 3, 0, 0);
        due(x.why(0), 1);
        x.strike(5);
        x.heading(5, 4, 1, 0, 0);
        due(x.why(0), 2);
        x.heading(6, 1, 3, 0, 0);
        due(x.why(0), 1);
        SilkTariff y = new SilkTariff();
        y.good(1, 1, 1, 0, 100, 0);
        y.heading(5, 1, 1, 0, 0);
        due(y.why(0), 1);
        y.heading(4, 4, 1, 0, 0);
        due(y.why(0), 1);
    }

    private static void favour() {
        start(14);
        SilkTariff x = new SilkTariff();
        due(x.favour(0, 100), 0);
        due(x.favour(0, 0), 100);
        due(x.favour(0, 0), 0);
        due(x.favour(4, 33), 0);
        due(x.favour(4, 34), 33);
        due(x.favour(5, 0), NONE);
        due(x.favour(-1, 0), NONE);
        due(x.favour(5, 101), NONE);
        due(x.favour(0, 101), BAD);
        due(x.favour(0, -1), BAD);
        due(x.favour(LOW, 0), NONE);
        due(x.favour(HIGH, HIGH), NONE);
        due(x.favour(0, LOW), BAD);
        due(x.account(11), 16);
        due(x.account(13), 5);
        x.good(0, 1, 333, 0, 0, 0);
        x.work(0, 4, 1);
        due(x.goodOf(0, 7), 66);
        x.coins(99);
        due(x.enter(0), 66);
        x.favour(4, 100);
        due(x.goodOf(0, 7), 0);
        due(x.goodOf(0, 8), 66);
    }

    private static void coins() {
        start(15);
        SilkTariff x = new SilkTariff();
        due(x.coins(0), BAD);
        due(x.coins(10000), BAD);
        due(x.coins(-1), BAD);
        due(x.coins(LOW), BAD);
        due(x.coins(HIGH), BAD);
        due(x.coins(1), 1);
        due(x.coins(9999), 10000);
        due(x.coins(9999), 19999);
        due(x.account(6), 19999);
        due(x.account(7), 19999);
    }

    private static void enter() {
        start(16);
        SilkTariff x = new SilkTariff();
        due(x.enter(0), NONE);
        x.good(0, 99, 999, 100, 0, 0);
        due(x.enter(-1), NONE);
        due(x.enter(1), NONE);
        due(x.enter(LOW), NONE);
        due(x.enter(HIGH), NONE);
        due(x.enter(0), REFUSED);
        dueReason(x, 4, 0);
        x.work(0, 1, 1);
        due(x.enter(0), REFUSED);
        dueReason(x, 5, 299);
        x.coins(298);
        due(x.enter(0), REFUSED);
        dueReason(x, 5, 1);
        due(x.account(6), 298);
        x.coins(1);
        x.days(4);
        due(x.enter(0), 299);
        due(x.account(6), 0);
        due(x.account(8), 299);
        due(x.goodOf(0, 10), 4);
        due(x.enter(0), REFUSED);
        dueReason(x, 3, 1);
        x.export(0);
        due(x.enter(0), REFUSED);
        dueReason(x, 3, 2);
        x.good(0, 1, 3, 0, 0, 0);
        due(x.enter(1), REFUSED);
        dueReason(x, 4, 1);
        x.work(1, 1, 1);
        due(x.enter(1), 0);
        x.good(0, 99, 1, 0, 0, 0);
        x.heading(1, 3, 0, 60, 20);
        x.work(2, 2, 1);
        x.coins(9999);
        due(x.enter(2), 1980);
        x.good(0, 1, 100, 0, 0, 0);
        x.work(3, 2, 1);
        x.favour(2, 100);
        due(x.enter(3), 0);
        due(x.goodOf(3, 3), 1);
        x.export(1);
        x.good(0, 1, 100, 0, 0, 0);
        x.export(4);
        due(x.enter(4), REFUSED);
        dueReason(x, 3, 2);
    }

    private static void export() {
        start(17);
        SilkTariff x = new SilkTariff();
        due(x.export(0), NONE);
        for (int good = 0; good < 4; good++) {
            x.good(0, 1, 333, 0, 0, 0);
        }
        x.work(0, 0, 1);
        x.work(1, 0, 1);
        x.work(2, 0, 1);
        x.coins(500);
        x.days(50);
        x.enter(0);
        x.enter(1);
        x.enter(2);
        due(x.account(6), 203);
        due(x.export(0), 89);
        due(x.goodOf(0, 9), 89);
        due(x.account(6), 292);
        x.days(30);
        due(x.export(1), 89);
        x.days(1);
        due(x.export(2), 0);
        due(x.goodOf(2, 8), 99);
        due(x.goodOf(2, 9), 0);
        due(x.export(3), 0);
        due(x.goodOf(3, 3), 2);
        due(x.goodOf(3, 8), 0);
        due(x.account(9), 178);
        for (int good = 0; good < 4; good++) {
            due(x.export(good), REFUSED);
            dueReason(x, 3, 2);
        }
        due(x.export(4), NONE);
        due(x.export(-1), NONE);
        due(x.export(LOW), NONE);
        due(x.export(HIGH), NONE);
        due(x.account(5), 4);
    }

    private static void days() {
        start(18);
        SilkTariff x = new SilkTariff();
        due(x.days(0), BAD);
        due(x.days(100), BAD);
        due(x.days(-1), BAD);
        due(x.days(LOW), BAD);
        due(x.days(HIGH), BAD);
        due(x.days(1), 1);
        due(x.days(99), 100);
        due(x.days(50), 150);
        due(x.account(0), 150);
    }

    private static void would() {
        start(19);
        SilkTariff x = new SilkTariff();
        due(x.would(0, 0), NONE);
        x.good(1, 10, 101, 0, 0, 0);
        x.favour(1, 50);
        x.favour(2, 1);
        x.favour(3, 4);
        x.favour(4, 100);
        int[] duties = {30, 15, 30, 29, 0};
        for (int country = 0; country < 5; country++) {
            due(x.would(0, country), duties[country]);
        }
        x.heading(8, 3, 1, 30, 4);
        due(x.would(0, 0), 40);
        due(x.would(0, 1), 20);
        x.work(0, 4, 9);
        x.coins(1);
        x.enter(0);
        due(x.would(0, 0), 40);
        x.export(0);
        due(x.would(0, 3), 39);
        due(x.would(0, 5), NONE);
        due(x.would(0, -1), NONE);
        due(x.would(1, 0), NONE);
        due(x.would(-1, 0), NONE);
        due(x.would(LOW, HIGH), NONE);
    }

    private static void cheapest() {
        start(20);
        SilkTariff x = new SilkTariff();
        due(x.cheapest(0), NONE);
        x.good(1, 10, 101, 0, 0, 0);
        due(x.cheapest(0), 0);
        x.favour(3, 1);
        due(x.cheapest(0), 0);
        x.favour(1, 5);
        due(x.cheapest(0), 1);
        x.favour(1, 0);
        x.favour(3, 10);
        due(x.cheapest(0), 3);
        x.favour(2, 10);
        due(x.cheapest(0), 2);
        x.favour(4, 11);
        due(x.cheapest(0), 2);
        x.favour(4, 50);
        due(x.cheapest(0), 4);
        x.favour(0, 60);
        due(x.cheapest(0), 0);
        due(x.cheapest(1), NONE);
        due(x.cheapest(-1), NONE);
        due(x.cheapest(LOW), NONE);
        due(x.cheapest(HIGH), NONE);
    }

    private static void ranked() {
        start(21);
        SilkTariff x = new SilkTariff();
        due(x.ranked(0), NONE);
        x.good(0, 1, 103, 0, 0, 0);
        x.good(0, 1, 101, 0, 0, 0);
        x.good(0, 1, 200, 0, 0, 0);
        x.good(0, 1, 101, 0, 0, 0);
        x.good(0, 1, 300, 0, 0, 0);
        int[] order = {4, 2, 1, 3, 0};
        for (int place = 0; place < 5; place++) {
            due(x.ranked(place), order[place]);
        }
        x.favour(1, 100);
        x.work(4, 1, 5);
        int[] favoured = {2, 1, 3, 0, 4};
        for (int place = 0; place < 5; place++) {
            due(x.ranked(place), favoured[place]);
        }
        x.export(2);
        due(x.ranked(0), 2);
        SilkTariff y = new SilkTariff();
        y.good(0, 1, 500, 0, 0, 0);
        y.good(0, 1, 300, 0, 0, 0);
        due(y.ranked(0), 0);
        due(y.ranked(1), 1);
        y.favour(0, 50);
        y.work(0, 0, 1);
        due(y.ranked(0), 1);
        due(y.ranked(1), 0);
        due(x.ranked(5), NONE);
        due(x.ranked(-1), NONE);
        due(x.ranked(LOW), NONE);
        due(x.ranked(HIGH), NONE);
    }

    private static void append() {
        start(22);
        SilkTariff x = new SilkTariff();
        due(x.append(31), BAD);
        due(x.append(127), BAD);
        due(x.append(-1), BAD);
        due(x.append(LOW), BAD);
        due(x.append(HIGH), BAD);
        due(x.append(256 + 65), BAD);
        due(x.append(32), 1);
        due(x.append(126), 2);
        for (int length = 3; length <= 60; length++) {
            due(x.append('a'), length);
        }
        due(x.append('a'), FULL);
        due(x.append(31), BAD);
        due(x.account(12), 60);
        due(x.account(13), 0);
        due(x.run(), -1000);
        due(x.append('a'), 1);
    }

    private static void run() {
        start(23);
        SilkTariff x = new SilkTariff();
        due(run(x, "head 5 s* 20 3;head 06 *g 60 20;strike 5;coins 1234"), 4);
        due(x.account(1), 1);
        due(x.headingOf(6, 0), 4);
        due(x.headingOf(6, 1), 2);
        due(x.headingOf(6, 2), 60);
        due(x.headingOf(6, 3), 20);
        due(x.account(12), 0);
        due(x.account(13), 1);
        due(run(x, "good t 9 99 10/20/30;good c 10 100 0/0/100;good g 1 1 0/0/0"), 3);
        due(x.goodOf(0, 0), 0);
        due(x.goodOf(1, 1), 10);
        due(x.goodOf(1, 2), 100);
        due(x.part(0, 2), 30);
        due(x.part(1, 2), 100);
        due(x.goodOf(2, 0), 2);
        due(run(x, "work 0 4 9;work 01 3 99;favour 3=5;day 2;day 30;enter 1"), 6);
        due(x.points(1, 3), 99);
        due(x.goodOf(1, 8), 29);
        due(x.goodOf(1, 10), 32);
        due(run(x, "export 01;export 2"), 2);
        due(x.account(5), 2);
        due(run(x, "favour 3=0;favour 4=100"), 2);
        due(x.account(11), 16);
        due(run(x, "day 1;day 1;day 1;day 1;day 1;day 1;day 1;day 1;day 1;day 1"), 10);
        due(x.account(0), 42);
        dueReason(x, NOTHING, NOTHING);
    }

    private static void faults() {
        start(23);
        Object[][] faults = {{"", 0}, {"x", 0}, {" ", 0}, {";", 0}, {"h", 1}, {"hx", 1}, {"head", 4}, {"head5", 4}, {"head ", 5},
            {"head x", 5}, {"head 5", 6}, {"head 123", 7}, {"head 12 ", 8}, {"head 1 s", 8}, {"head 1 ts", 7}, {"head 1 s ", 8},
            {"head 1 sl 2 3", 8}, {"head 1 ** 2", 11}, {"head 1 ** 2 ", 12}, {"head 1 ** 200 1", 12}, {"head 1 ** 2 111", 14},
            {"head 1 ** 2 3 ", 13}, {"head 1  **", 7}, {"strike", 6}, {"strike 100", 9}, {"stroke", 3}, {"s", 1},
            {"good * 1 1 1/1/1", 5}, {"good tc", 6}, {"good t 100 1 1/1/1", 9}, {"good t 10 1000 1/1/1", 13},
            {"good t 10 100 1000/1/1", 17}, {"good t 1 1 1", 12}, {"good t 1 1 1/1", 14}, {"good t 1 1 1/1/", 15},
            {"good t 1 1 1 1/1", 12}, {"good t 1 1 1/1/1/", 16}, {"good t 1 1 1/1000/1", 16}, {"good t 1 1 1/1/1000", 18}, {"goods", 4},
            {"work 1 10 5", 8}, {"work 100 1 5", 7}, {"work 1 1 100", 11}, {"work 1 1", 8}, {"work 1 1 ", 9}, {"worn", 3},
            {"favour 12=5", 8}, {"favour 1 5", 8}, {"favour 1=", 9}, {"favour 1=1000", 12}, {"favor", 4}, {"favour 1=-1", 9},
            {"coins 12345", 10}, {"coins ", 6}, {"coin", 4}, {"coins x", 6}, {"coins -", 6}, {"enter 123", 8}, {"e", 1}, {"ea", 1},
            {"en", 2}, {"ex", 2}, {"enp", 2}, {"ext", 2}, {"export", 6}, {"export 123", 9}, {"day 123", 6}, {"days", 3},
            {"day 1;", 6}, {"day 1;;", 6}, {"day 1; day 1", 6}, {"day 1 ;", 5}, {"day 1;dax", 8}, {"day 1,", 5}, {"DAY 1", 0},
            {"day 1;day 1;day 1;day 1;day 1;day 1;day 1;day 1;day 1;day 1;", 60},
            {"day 10;day 1;day 1;day 1;day 1;day 1;day 1;day 1;day 1;day 1", -10}};
        for (Object[] fault : faults) {
            int at = (Integer) fault[1];
            SilkTariff x = new SilkTariff();
            due(run(x, (String) fault[0]), at < 0 ? -at : -1000 - at);
            due(x.account(12), 0);
            due(x.account(0), at < 0 ? 19 : 0);
            due(x.account(13), at < 0 ? 1 : 0);
            dueReason(x, NOTHING, NOTHING);
        }
    }

    private static SilkTariff houseOfRuns() {
        SilkTariff x = new SilkTariff();
        x.coins(7);
        x.good(0, 1, 100, 0, 0, 0);
        return x;
    }

    private static void refusedRuns() {
        start(23);
        String[] texts = {"strike 99", "strike 5", "head 99 ** 1 1", "head 0 ** 1 1", "head 1 ** 61 1", "head 1 ** 1 21",
            "good t 0 1 1/1/1", "good t 1 0 1/1/1", "good t 1 1 50/50/1", "work 1 0 1", "work 0 5 1", "work 0 0 0", "favour 5=1",
            "favour 0=101", "coins 0", "coins 0000", "enter 0", "enter 1", "export 1", "day 0", "day 00"};
        for (int number = 0; number < texts.length; number++) {
            SilkTariff x = houseOfRuns();
            boolean isFirst = number % 2 == 0;
            due(run(x, isFirst ? texts[number] : "coins 5;day 3;" + texts[number] + ";day 1"), REFUSED);
            dueReason(x, 6, isFirst ? 0 : 2);
            due(x.account(6), 7);
            due(x.account(0), 0);
            due(x.account(12), 0);
            due(x.account(13), 2);
        }
        SilkTariff x = houseOfRuns();
        due(run(x, "work 0 1 5;favour 1=90;enter 0;export 0;export 0"), REFUSED);
        dueReason(x, 6, 4);
        due(x.goodOf(0, 3), 0);
        due(x.goodOf(0, 8), 0);
        due(x.points(0, 1), 0);
        due(x.account(11), 0);
        due(x.isBalanced(), 1);
        x.coins(50);
        due(run(x, "work 0 1 5;favour 1=50;enter 0;export 0"), 4);
        due(x.account(9), 13);
        dueReason(x, 6, 4);
        due(x.undo(), 3);
        due(x.goodOf(0, 3), 0);
        due(x.account(6), 57);
    }

    private static void tell() {
        start(24);
        SilkTariff x = new SilkTariff();
        x.good(1, 10, 300, 40, 60, 0);
        x.good(0, 1, 1, 0, 0, 0);
        x.good(2, 1, 1, 25, 25, 25);
        x.good(0, 1, 1, 9, 1, 0);
        due(x.tell(0), 11);
        dueText(line(x), "0cs40w60=99");
        due(x.tell(1), 9);
        dueText(line(x), "1tl100=99");
        x.heading(7, 3, 3, 0, 0);
        due(x.tell(2), 16);
        dueText(line(x), "2gs25w25c25l25=7");
        due(x.tell(3), 11);
        dueText(line(x), "3ts9w1l90=7");
        due(x.tell(4), NONE);
        due(x.tell(-1), NONE);
        due(x.tell(LOW), NONE);
        due(x.tell(HIGH), NONE);
        dueText(line(x), "3ts9w1l90=7");
        for (int good = 4; good < 12; good++) {
            x.good(2, 1, 1, 30, 30, 30);
        }
        due(x.tell(11), 18);
        dueText(line(x), "11gs30w30c30l10=99");
        due(x.tell(1), 8);
        dueText(line(x), "1tl100=7");
    }

    private static void tellHeading() {
        start(25);
        SilkTariff x = new SilkTariff();
        x.heading(50, 0, 1, 20, 3);
        x.heading(5, 1, 0, 0, 0);
        x.heading(6, 2, 2, 5, 20);
        x.heading(7, 3, 3, 60, 0);
        x.heading(8, 4, 2, 9, 10);
        due(x.tellHeading(50), 10);
        dueText(line(x), "50:sc20%+3");
        due(x.tellHeading(5), 6);
        dueText(line(x), "5:wt0%");
        due(x.tellHeading(6), 9);
        dueText(line(x), "6:cg5%+20");
        due(x.tellHeading(7), 7);
        dueText(line(x), "7:l*60%");
        due(x.tellHeading(8), 9);
        dueText(line(x), "8:*g9%+10");
        due(x.tellHeading(99), 8);
        dueText(line(x), "99:**30%");
        x.heading(98, 0, 0, 1, 1);
        due(x.tellHeading(98), 9);
        dueText(line(x), "98:st1%+1");
        due(x.tellHeading(99), 8);
        due(x.tellHeading(9), NONE);
        due(x.tellHeading(0), NONE);
        due(x.tellHeading(LOW), NONE);
        due(x.tellHeading(HIGH), NONE);
        dueText(line(x), "99:**30%");
    }

    private static void character() {
        start(26);
        SilkTariff x = new SilkTariff();
        due(x.character(0), NONE);
        x.tellHeading(99);
        due(x.character(0), '9');
        due(x.character(7), '%');
        due(x.character(8), NONE);
        due(x.character(-1), NONE);
        due(x.character(LOW), NONE);
        due(x.character(HIGH), NONE);
        x.good(0, 1, 1, 100, 0, 0);
        x.tell(0);
        dueText(line(x), "0ts100=99");
        x.save();
        x.undo();
        x.restore();
        dueText(line(x), "0ts100=99");
        x.heading(1, 0, 0, 0, 0);
        dueText(line(x), "0ts100=99");
        x.tellHeading(1);
        due(x.character(6), NONE);
    }

    private static void reason() {
        start(27);
        SilkTariff x = new SilkTariff();
        dueReason(x, NOTHING, NOTHING);
        x.enter(0);
        x.heading(0, 0, 0, 0, 0);
        dueReason(x, NOTHING, NOTHING);
        x.save();
        x.good(0, 1, 100, 0, 0, 0);
        x.enter(0);
        dueReason(x, 4, 0);
        x.work(0, 0, 1);
        x.enter(0);
        dueReason(x, 5, 30);
        x.undo();
        dueReason(x, 5, 30);
        x.restore();
        dueReason(x, 5, 30);
        x.enter(5);
        dueReason(x, 5, 30);
        due(run(x, "coins 5"), 1);
        dueReason(x, 5, 30);
        due(run(x, "enter 0"), REFUSED);
        dueReason(x, 6, 0);
    }

    private static void account() {
        start(28);
        SilkTariff x = new SilkTariff();
        x.heading(1, 4, 0, 10, 0);
        x.heading(2, 4, 1, 10, 0);
        for (int good = 0; good < 6; good++) {
            x.good(0, 1, 100 + good * 100, 0, 0, 0);
            x.work(good, 2, 1);
        }
        x.work(0, 1, 5);
        x.coins(500);
        x.coins(7);
        x.days(3);
        x.favour(0, 1);
        x.favour(3, 100);
        x.enter(1);
        x.enter(2);
        x.enter(3);
        x.export(2);
        x.export(0);
        type(x, "abc");
        int[] accounts = {3, 2, 6, 2, 2, 2, 507 - 90 + 27, 507, 90, 27, 7, 9, 3, 8};
        for (int what = 0; what < 14; what++) {
            due(x.account(what), accounts[what]);
        }
        due(x.account(14), BAD);
        due(x.account(-1), BAD);
        due(x.account(LOW), BAD);
        due(x.account(HIGH), BAD);
        x.favour(0, 0);
        due(x.account(11), 8);
    }

    private static void isBalanced() {
        start(29);
        SilkTariff x = fullTariff();
        due(x.isBalanced(), 1);
        x.work(0, 1, 1);
        x.coins(100);
        x.enter(0);
        due(x.isBalanced(), 1);
        x.export(0);
        due(x.isBalanced(), 1);
        x.undo();
        due(x.isBalanced(), 1);
        x.strike(16);
        due(x.isBalanced(), 1);
        SilkTariff y = new SilkTariff();
        y.coins(1000);
        for (int good = 0; good < 4; good++) {
            y.good(good % 3, 1, 200, 100 - good * 33, 0, 0);
            y.work(good, good, 1);
            y.enter(good);
            due(y.isBalanced(), 1);
        }
        y.heading(3, 0, 2, 5, 0);
        y.export(0);
        due(y.isBalanced(), 1);
        y.days(31);
        y.export(3);
        due(y.isBalanced(), 1);
        y.save();
        y.export(2);
        due(y.isBalanced(), 1);
        y.restore();
        due(y.isBalanced(), 1);
    }

    private static void meanDuty() {
        start(30);
        SilkTariff x = new SilkTariff();
        dueShare(x.meanDuty(), 0.0);
        x.good(0, 1, 100, 0, 0, 0);
        dueShare(x.meanDuty(), 30.0);
        x.good(0, 1, 104, 0, 0, 0);
        dueShare(x.meanDuty(), 30.5);
        x.good(0, 1, 100, 0, 0, 0);
        dueShare(x.meanDuty(), 91.0 / 3.0);
        x.export(0);
        dueShare(x.meanDuty(), 91.0 / 3.0);
        x.favour(2, 50);
        x.work(1, 2, 1);
        dueShare(x.meanDuty(), 76.0 / 3.0);
        x.heading(1, 4, 3, 0, 0);
        dueShare(x.meanDuty(), 0.0);
    }

    private static void backShare() {
        start(31);
        SilkTariff x = new SilkTariff();
        dueShare(x.backShare(), 0.0f);
        x.coins(1000);
        x.good(0, 1, 100, 0, 0, 0);
        x.good(0, 1, 110, 0, 0, 0);
        x.work(0, 0, 1);
        x.work(1, 0, 1);
        x.enter(0);
        dueShare(x.backShare(), 0.0f);
        x.enter(1);
        x.export(0);
        dueShare(x.backShare(), 27.0f / 63.0f);
        x.export(1);
        dueShare(x.backShare(), 56.0f / 63.0f);
        SilkTariff y = new SilkTariff();
        y.good(0, 1, 1, 0, 0, 0);
        y.work(0, 0, 1);
        y.enter(0);
        y.export(0);
        dueShare(y.backShare(), 0.0f);
    }

    private static void undo() {
        start(32);
        SilkTariff x = new SilkTariff();
        due(x.undo(), NOTHING);
        x.heading(5, 1, 1, 1, 1);
        x.good(1, 1, 100, 0, 100, 0);
        x.work(0, 2, 4);
        x.favour(2, 50);
        x.favour(2, 50);
        x.coins(9);
        x.days(6);
        x.enter(0);
        due(x.account(13), 8);
        due(x.undo(), 7);
        due(x.goodOf(0, 3), 0);
        due(x.goodOf(0, 10), NOTHING);
        due(x.account(6), 9);
        due(x.account(8), 0);
        due(x.undo(), 6);
        due(x.account(0), 0);
        due(x.undo(), 5);
        due(x.account(6), 0);
        due(x.account(7), 0);
        due(x.undo(), 4);
        due(x.account(11), 4);
        due(x.undo(), 3);
        due(x.account(11), 0);
        due(x.undo(), 2);
        due(x.points(0, 2), 0);
        due(x.goodOf(0, 5), NOTHING);
        due(x.account(10), 0);
        due(x.undo(), 1);
        due(x.account(2), 0);
        due(x.undo(), 0);
        due(x.account(1), 0);
        due(x.undo(), NOTHING);
        for (int day = 1; day <= 20; day++) {
            x.days(1);
        }
        for (int left = 7; left >= 0; left--) {
            due(x.undo(), left);
        }
        due(x.account(0), 12);
        due(x.undo(), NOTHING);
        x.heading(5, 1, 1, 1, 1);
        x.strike(5);
        due(x.undo(), 1);
        due(x.headingOf(5, 0), 1);
        x.good(1, 1, 100, 0, 100, 0);
        x.export(0);
        due(x.undo(), 2);
        due(x.goodOf(0, 3), 0);
        due(run(x, "coins 5;coins 6"), 1 + 1);
        due(x.undo(), 2);
        due(x.account(7), 0);
        due(run(x, "coins 5;coins 0"), REFUSED);
        due(x.account(13), 2);
        type(x, "day");
        due(x.undo(), 1);
        due(x.account(12), 3);
        x.good(2, 1, 1, 0, 0, 0);
        due(x.good(2, 1, 1, 0, 0, 0), 1);
        due(x.points(0, 2), 0);
    }

    private static void undoOfFailures() {
        start(32);
        SilkTariff x = new SilkTariff();
        for (int day = 1; day <= 9; day++) {
            x.days(1);
        }
        for (int time = 0; time < 10; time++) {
            due(run(x, "day 5;strike 4"), REFUSED);
            due(x.days(0), BAD);
            due(x.strike(4), NONE);
            due(x.account(0), 9);
            due(x.account(13), 8);
        }
        for (int left = 7; left >= 0; left--) {
            due(x.undo(), left);
            due(x.account(0), left + 1);
        }
    }

    private static SilkTariff houseOfChanges() {
        SilkTariff x = new SilkTariff();
        x.heading(1, 3, 0, 10, 1);
        x.good(0, 1, 50, 0, 0, 0);
        x.good(1, 1, 50, 0, 0, 0);
        x.work(0, 1, 3);
        x.coins(77);
        x.favour(3, 3);
        for (int day = 1; day <= 12; day++) {
            x.days(1);
        }
        return x;
    }

    // Each kind of change is undone from a house in which much has been before.
    private static void undoOfEachKind() {
        start(32);
        int[] before = stateOf(houseOfChanges());
        for (int kind = 0; kind < 10; kind++) {
            SilkTariff x = houseOfChanges();
            boolean isDone = change(x, kind) >= 0;
            due(isDone ? 1 : 0, 1);
            due(x.account(13), 8);
            due(x.undo(), 7);
            int[] after = stateOf(x);
            for (int i = 0; i < before.length; i++) {
                due(after[i], before[i]);
            }
        }
    }

    private static int change(SilkTariff x, int kind) {
        switch (kind) {
            case 0: return x.heading(2, 3, 0, 10, 1);
            case 1: return x.strike(1);
            case 2: return x.good(2, 5, 5, 5, 5, 5);
            case 3: return x.work(0, 2, 9);
            case 4: return x.favour(3, 100);
            case 5: return x.coins(1000);
            case 6: return x.enter(0);
            case 7: return x.export(1);
            case 8: return x.days(99);
            default: return run(x, "coins 1;strike 1;enter 0");
        }
    }

    private static int[] stateOf(SilkTariff x) {
        int[] state = new int[12 + 3 * 11 + 3 * 6 + 10];
        int next = 0;
        for (int what = 0; what < 12; what++) {
            state[next++] = x.account(what);
        }
        for (int good = 0; good < 3; good++) {
            for (int what = 0; what <= 10; what++) {
                state[next++] = x.goodOf(good, what);
            }
            for (int country = 0; country <= 5; country++) {
                state[next++] = x.points(good, country);
            }
        }
        for (int place = 0; place < 2; place++) {
            for (int what = 0; what < 5; what++) {
                state[next++] = x.headingOf(x.code(place), what);
            }
        }
        return state;
    }

    private static void save() {
        start(33);
        SilkTariff x = new SilkTariff();
        due(x.save(), 0);
        due(x.account(13), 0);
        x.days(5);
        due(x.save(), 5);
        due(x.account(13), 1);
        x.days(5);
        due(x.restore(), 5);
        x.days(7);
        due(x.save(), 12);
        x.heading(4, 0, 0, 0, 0);
        due(x.undo(), 1);
        due(x.undo(), 0);
        due(x.account(0), 5);
        due(x.restore(), 12);
    }

    private static void restore() {
        start(34);
        SilkTariff x = new SilkTariff();
        due(x.restore(), NOTHING);
        x.heading(5, 1, 1, 1, 1);
        x.good(1, 1, 100, 0, 100, 0);
        x.work(0, 2, 4);
        x.favour(2, 50);
        x.coins(9);
        x.days(6);
        due(x.restore(), NOTHING);
        due(x.account(13), 6);
        x.save();
        x.enter(0);
        x.export(0);
        x.strike(5);
        x.heading(7, 1, 1, 1, 1);
        x.days(6);
        x.favour(2, 0);
        x.favour(1, 4);
        x.coins(50);
        x.good(2, 1, 1, 0, 0, 0);
        type(x, "coins 5");
        for (int time = 0; time < 3; time++) {
            due(x.restore(), 6);
            due(x.undo(), NOTHING);
            due(x.account(13), 0);
            due(x.account(2), 1);
            due(x.account(3), 1);
            due(x.account(6), 9);
            due(x.account(7), 9);
            due(x.account(8), 0);
            due(x.account(9), 0);
            due(x.account(10), 1);
            due(x.account(11), 4);
            due(x.account(12), 7);
            due(x.headingOf(5, 4), 1);
            due(x.headingOf(7, 4), NONE);
            due(x.points(0, 2), 4);
            x.days(1);
            x.enter(0);
            x.favour(4, 4);
            due(x.account(13), 3);
        }
        due(x.undo(), 2);
    }

    private static void constants() {
        start(0);
        due(NONE, -11);
        due(BAD, -12);
        due(FULL, -13);
        due(REFUSED, -14);
        due(NOTHING, -15);
    }

    public static void main(String[] args) {
        constants();
        newObject();
        heading();
        strike();
        headingOf();
        code();
        good();
        work();
        goodOf();
        chiefFibre();
        origin();
        part();
        points();
        fit();
        fitAgain();
        why();
        favour();
        coins();
        enter();
        export();
        days();
        would();
        cheapest();
        ranked();
        append();
        run();
        faults();
        refusedRuns();
        tell();
        tellHeading();
        character();
        reason();
        account();
        isBalanced();
        meanDuty();
        backShare();
        undo();
        undoOfFailures();
        undoOfEachKind();
        save();
        restore();
        System.out.println(wrong == 0 ? "all promises hold" : wrong + " checks failed");
        if (wrong != 0) {
            System.exit(1);
        }
    }
}
