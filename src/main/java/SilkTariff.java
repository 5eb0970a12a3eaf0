/**
 * A custom house for silks and mixed goods: a tariff of headings, goods in bond,
 * entered and exported, the coins of a merchant, orders as texts, and undo.
 */
public final class SilkTariff {
    public static final int NONE = -11;
    public static final int BAD = -12;
    public static final int FULL = -13;
    public static final int REFUSED = -14;
    public static final int NOTHING = -15;

    // The limits of the document.
    private static final int MOST_HEADINGS = 10;
    private static final int MOST_GOODS = 12;
    private static final int MOST_WORKINGS = 6;
    private static final int MOST_UNDONE = 8;
    private static final int COUNTRIES = 5;
    private static final int FIBRES = 4;
    private static final int DRAWBACK_DAYS = 30;
    private static final int TEXT_ROOM = 60;
    private static final int LINE_ROOM = 24;

    // The heading that is always there, and what stands for "any".
    private static final int LAST_CODE = 99;
    private static final int LAST_RATE = 30;
    private static final int ANY_FIBRE = 4;
    private static final int ANY_FORM = 3;

    // How a good is.
    private static final int IN_BOND = 0;
    private static final int ENTERED = 1;
    private static final int EXPORTED = 2;

    // The reasons.
    private static final int NO_ROOM = 1;
    private static final int SAME_CODE = 2;
    private static final int WRONG_STATUS = 3;
    private static final int NEVER_WORKED_ON = 4;
    private static final int TOO_FEW_COINS = 5;
    private static final int ORDER_FAILED = 6;

    // The columns of a heading; the first four are numbered as headingOf asks for them.
    private static final int FIBRE = 0;
    private static final int FORM = 1;
    private static final int RATE = 2;
    private static final int PER_KILO = 3;
    private static final int CODE = 4;
    private static final int HEADING_WIDTH = 5;

    // The columns of a good; PART and the two behind it stand for a row of columns each.
    private static final int MADE_AS = 0;
    private static final int KILOS = 1;
    private static final int WORTH = 2;
    private static final int STATUS = 3;
    private static final int CHIEF = 4;
    private static final int PAID = 5;
    private static final int BACK = 6;
    private static final int ENTRY_DAY = 7;
    private static final int WORKINGS = 8;
    private static final int PART = 9;
    private static final int POINTS = PART + FIBRES;
    private static final int LAST_WORKING = POINTS + COUNTRIES;
    private static final int GOOD_WIDTH = LAST_WORKING + COUNTRIES;

    // The kinds of orders, and the columns of an order: its kind, then its numbers.
    private static final int HEAD_ORDER = 0;
    private static final int STRIKE_ORDER = 1;
    private static final int GOOD_ORDER = 2;
    private static final int WORK_ORDER = 3;
    private static final int FAVOUR_ORDER = 4;
    private static final int COINS_ORDER = 5;
    private static final int ENTER_ORDER = 6;
    private static final int EXPORT_ORDER = 7;
    private static final int DAY_ORDER = 8;
    private static final int ORDER_KINDS = 9;
    private static final int ORDER_WIDTH = 7;

    // Ten orders fill a text; an eleventh is looked for behind a ";" at its very end.
    private static final int MOST_ORDERS = 11;
    private static final int FIRST_FAULT = -1000;

    // Above the rank of every heading.
    private static final int TOP_RANK = 1000;

    private final Clerk clerk;
    private final House house;
    private final History history;
    private final Ranking ranking;
    private final Text text;
    private final Line line;

    public SilkTariff() {
        clerk = new Clerk();
        house = clerk.house;
        history = new History();
        ranking = new Ranking();
        text = new Text();
        line = new Line();
    }

    // ---- headings

    public int heading(int code, int fibre, int form, int rate, int perKilo) {
        history.keep(house);
        return history.settle(clerk.setUp(code, fibre, form, rate, perKilo));
    }

    public int strike(int code) {
        history.keep(house);
        return history.settle(clerk.strikeOut(code));
    }

    public int headingOf(int code, int what) {
        int row = house.rowOfCode(code);
        if (row < 0) {
            return NONE;
        }
        if (!isWithin(what, 0, 4)) {
            return BAD;
        }
        return what == 4 ? house.countGoodsOf(row) : house.headings.get(row, what);
    }

    public int code(int place) {
        return isWithin(place, 0, house.headingCount - 1) ? house.headings.get(place, CODE) : NONE;
    }

    // ---- goods

    public int good(int form, int kilos, int coins, int silk, int wool, int cotton) {
        history.keep(house);
        return history.settle(clerk.takeIn(form, kilos, coins, silk, wool, cotton));
    }

    public int work(int good, int country, int points) {
        history.keep(house);
        return history.settle(clerk.workOn(good, country, points));
    }

    public int goodOf(int good, int what) {
        if (!house.hasGood(good)) {
            return NONE;
        }
        switch (what) {
            case 0: return house.goods.get(good, MADE_AS);
            case 1: return house.goods.get(good, KILOS);
            case 2: return house.goods.get(good, WORTH);
            case 3: return house.goods.get(good, STATUS);
            case 4: return house.goods.get(good, CHIEF);
            case 5: return house.originOf(good);
            case 6: return house.headings.get(house.fittingRow(good, TOP_RANK), CODE);
            case 7: return house.dutyFrom(good, house.originOf(good));
            case 8: return house.goods.get(good, PAID);
            case 9: return house.goods.get(good, BACK);
            case 10: return house.goods.get(good, ENTRY_DAY);
            default: return BAD;
        }
    }

    public int part(int good, int fibre) {
        if (!house.hasGood(good) || !isWithin(fibre, 0, FIBRES - 1)) {
            return NONE;
        }
        return house.goods.get(good, PART + fibre);
    }

    public int points(int good, int country) {
        if (!house.hasGood(good) || !isCountry(country)) {
            return NONE;
        }
        return house.goods.get(good, POINTS + country);
    }

    public int fit(int good, int place) {
        if (!house.hasGood(good) || !isWithin(place, 0, house.headingCount - 1)) {
            return NONE;
        }
        int row = house.fittingRowAt(good, place);
        return row < 0 ? NONE : house.headings.get(row, CODE);
    }

    public int fitAgain(int good) {
        if (!house.hasGood(good)) {
            return NONE;
        }
        return house.headings.get(house.keptRow(good), CODE);
    }

    public int why(int good) {
        return house.hasGood(good) ? house.lead(good) : NONE;
    }

    // ---- duties

    public int favour(int country, int hundredths) {
        history.keep(house);
        return history.settle(clerk.favourCountry(country, hundredths));
    }

    public int coins(int coins) {
        history.keep(house);
        return history.settle(clerk.give(coins));
    }

    public int enter(int good) {
        history.keep(house);
        return history.settle(clerk.letIn(good));
    }

    public int export(int good) {
        history.keep(house);
        return history.settle(clerk.letOut(good));
    }

    public int days(int days) {
        history.keep(house);
        return history.settle(clerk.goBy(days));
    }

    public int would(int good, int country) {
        if (!house.hasGood(good) || !isCountry(country)) {
            return NONE;
        }
        return house.dutyFrom(good, country);
    }

    public int cheapest(int good) {
        if (!house.hasGood(good)) {
            return NONE;
        }
        int best = 0;
        int least = house.dutyFrom(good, 0);
        for (int country = 1; country < COUNTRIES; country++) {
            int duty = house.dutyFrom(good, country);
            if (duty < least) {
                best = country;
                least = duty;
            }
        }
        return best;
    }

    public int ranked(int place) {
        return isWithin(place, 0, house.goodCount - 1) ? ranking.goodAt(house, place) : NONE;
    }

    // ---- texts, lines

    public int append(int code) {
        return text.add(code);
    }

    public int run() {
        int count = text.read();
        text.empty();
        if (count < 0) {
            return count;
        }
        history.keep(house);
        for (int order = 0; order < count; order++) {
            if (clerk.carryOut(text.orders, order) < 0) {
                history.takeBack(house);
                return clerk.refuse(ORDER_FAILED, order);
            }
        }
        return history.settle(count);
    }

    public int tell(int good) {
        return house.hasGood(good) ? line.writeGood(house, good) : NONE;
    }

    public int tellHeading(int code) {
        int row = house.rowOfCode(code);
        return row < 0 ? NONE : line.writeHeading(house, row);
    }

    public int character(int index) {
        return line.signAt(index);
    }

    // ---- reasons, accounts, undo and the snapshot

    public int reason(boolean isDetail) {
        return isDetail ? clerk.detail : clerk.reason;
    }

    public int account(int what) {
        switch (what) {
            case 0: return house.day;
            case 1: return house.headingCount - 1;
            case 2: return house.goodCount;
            case 3: return house.countGoodsThatAre(IN_BOND);
            case 4: return house.countGoodsThatAre(ENTERED);
            case 5: return house.countGoodsThatAre(EXPORTED);
            case 6: return house.purse;
            case 7: return house.given;
            case 8: return house.paid;
            case 9: return house.drawnBack;
            case 10: return house.workings;
            case 11: return house.favouredSet();
            case 12: return text.length;
            case 13: return history.undoable;
            default: return BAD;
        }
    }

    public int isBalanced() {
        return house.areCoinsRight() && house.areHeadingsRight() ? 1 : 0;
    }

    public double meanDuty() {
        int count = house.goodCount;
        if (count <= 0) {
            return 0.0;
        }
        int sum = 0;
        for (int good = 0; good < count; good++) {
            sum += house.dutyFrom(good, house.originOf(good));
        }
        return (double) sum / (double) count;
    }

    public float backShare() {
        return house.paid == 0 ? 0.0f : (float) house.drawnBack / (float) house.paid;
    }

    public int undo() {
        return history.stepBack(house);
    }

    public int save() {
        history.saveFrom(house);
        return house.day;
    }

    public int restore() {
        return history.restoreTo(house) ? house.day : NOTHING;
    }

    private static boolean isWithin(int number, int least, int most) {
        return number >= least && number <= most;
    }

    private static boolean isCountry(int country) {
        return isWithin(country, 0, COUNTRIES - 1);
    }

    /** Rows of numbers; a cell outside of them reads as 0 and takes nothing. */
    private static final class Table {
        private final int rows;
        private final int width;
        private final int[] cells;

        Table(int rows, int width) {
            this.rows = Math.max(rows, 0);
            this.width = Math.max(width, 0);
            this.cells = new int[Math.max(this.rows * this.width, 0)];
        }

        int get(int row, int column) {
            if (row < 0 || row >= rows || column < 0 || column >= width) {
                return 0;
            }
            int index = row * width + column;
            return index >= 0 && index < cells.length ? cells[index] : 0;
        }

        void set(int row, int column, int number) {
            if (row < 0 || row >= rows || column < 0 || column >= width) {
                return;
            }
            int index = row * width + column;
            if (index >= 0 && index < cells.length) {
                cells[index] = number;
            }
        }

        /** Takes the numbers of one row over into another one. */
        void copyRow(int from, int to) {
            for (int column = 0; column < width; column++) {
                set(to, column, get(from, column));
            }
        }

        void copyFrom(Table other) {
            int length = Math.min(cells.length, other.cells.length);
            System.arraycopy(other.cells, 0, cells, 0, length);
        }
    }

    /** All that changes can change, and what can be told from it. */
    private static final class House {
        // Rows by their codes, so that the heading 99 is always the last one.
        final Table headings = new Table(MOST_HEADINGS + 1, HEADING_WIDTH);
        final Table goods = new Table(MOST_GOODS, GOOD_WIDTH);
        // One row: by how many hundredths each country is favoured.
        final Table favours = new Table(1, COUNTRIES);
        int headingCount;
        int goodCount;
        int day;
        int purse;
        int given;
        int paid;
        int drawnBack;
        int workings;

        House() {
            headings.set(0, FIBRE, ANY_FIBRE);
            headings.set(0, FORM, ANY_FORM);
            headings.set(0, RATE, LAST_RATE);
            headings.set(0, CODE, LAST_CODE);
            headingCount = 1;
        }

        void copyFrom(House other) {
            headings.copyFrom(other.headings);
            goods.copyFrom(other.goods);
            favours.copyFrom(other.favours);
            headingCount = other.headingCount;
            goodCount = other.goodCount;
            day = other.day;
            purse = other.purse;
            given = other.given;
            paid = other.paid;
            drawnBack = other.drawnBack;
            workings = other.workings;
        }

        boolean hasGood(int good) {
            return good >= 0 && good < goodCount;
        }

        int rowOfCode(int code) {
            for (int row = 0; row < headingCount; row++) {
                if (headings.get(row, CODE) == code) {
                    return row;
                }
            }
            return -1;
        }

        boolean isFitting(int row, int good) {
            int fibre = headings.get(row, FIBRE);
            int form = headings.get(row, FORM);
            return (fibre == ANY_FIBRE || fibre == goods.get(good, CHIEF))
                && (form == ANY_FORM || form == goods.get(good, MADE_AS));
        }

        /** A number for each heading, unlike all others; the greater it is, the further ahead. */
        private int rankOf(int row) {
            int code = headings.get(row, CODE);
            int rank = code == LAST_CODE ? 0 : code;
            if (headings.get(row, FORM) != ANY_FORM) {
                rank += 100;
            }
            if (headings.get(row, FIBRE) != ANY_FIBRE) {
                rank += 200;
            }
            return rank;
        }

        /** The row of the first heading that fits a good, of those ranked below a number; -1 without one. */
        int fittingRow(int good, int belowRank) {
            int best = -1;
            int bestRank = -1;
            for (int row = 0; row < headingCount; row++) {
                int rank = isFitting(row, good) ? rankOf(row) : -1;
                if (rank < belowRank && rank > bestRank) {
                    best = row;
                    bestRank = rank;
                }
            }
            return best;
        }

        int fittingRowAt(int good, int place) {
            int row = fittingRow(good, TOP_RANK);
            for (int step = 0; step < place && row >= 0; step++) {
                row = fittingRow(good, rankOf(row));
            }
            return row;
        }

        private boolean isAhead(int row, int other) {
            boolean hasFibre = headings.get(row, FIBRE) != ANY_FIBRE;
            boolean hasForm = headings.get(row, FORM) != ANY_FORM;
            if (hasFibre != (headings.get(other, FIBRE) != ANY_FIBRE)) {
                return hasFibre;
            }
            if (hasForm != (headings.get(other, FORM) != ANY_FORM)) {
                return hasForm;
            }
            int code = headings.get(row, CODE);
            int otherCode = headings.get(other, CODE);
            if (code == LAST_CODE || otherCode == LAST_CODE) {
                return otherCode == LAST_CODE && code != LAST_CODE;
            }
            return code > otherCode;
        }

        /** The row of a good's heading by the second way. */
        int keptRow(int good) {
            int kept = -1;
            for (int row = 0; row < headingCount; row++) {
                if (isFitting(row, good) && (kept < 0 || !isAhead(kept, row))) {
                    kept = row;
                }
            }
            return kept;
        }

        /** By what the first heading that fits a good is ahead of the second one. */
        int lead(int good) {
            int first = fittingRowAt(good, 0);
            int second = fittingRowAt(good, 1);
            if (second < 0) {
                return 0;
            }
            boolean hasFibre = headings.get(first, FIBRE) != ANY_FIBRE;
            boolean hasForm = headings.get(first, FORM) != ANY_FORM;
            if (hasFibre != (headings.get(second, FIBRE) != ANY_FIBRE)) {
                return 1;
            }
            if (hasForm != (headings.get(second, FORM) != ANY_FORM)) {
                return 2;
            }
            return headings.get(second, CODE) == LAST_CODE ? 4 : 3;
        }

        int countGoodsOf(int row) {
            int count = 0;
            for (int good = 0; good < goodCount; good++) {
                if (fittingRow(good, TOP_RANK) == row) {
                    count++;
                }
            }
            return count;
        }

        int countGoodsThatAre(int status) {
            int count = 0;
            for (int good = 0; good < goodCount; good++) {
                if (goods.get(good, STATUS) == status) {
                    count++;
                }
            }
            return count;
        }

        int originOf(int good) {
            int origin = NOTHING;
            int most = 0;
            int latest = 0;
            for (int country = 0; country < COUNTRIES; country++) {
                int points = goods.get(good, POINTS + country);
                int working = goods.get(good, LAST_WORKING + country);
                if (points > most || (points == most && working > latest)) {
                    origin = country;
                    most = points;
                    latest = working;
                }
            }
            return origin;
        }

        /** The duty of a good of an origin; NOTHING for the origin is as no favoured country. */
        int dutyFrom(int good, int origin) {
            int row = fittingRow(good, TOP_RANK);
            int byValue = goods.get(good, WORTH) * headings.get(row, RATE) / 100;
            int byWeight = goods.get(good, KILOS) * headings.get(row, PER_KILO);
            int duty = Math.max(byValue, byWeight);
            return duty - duty * favours.get(0, origin) / 100;
        }

        int favouredSet() {
            int set = 0;
            for (int country = 0; country < COUNTRIES; country++) {
                if (favours.get(0, country) > 0) {
                    set |= 1 << country;
                }
            }
            return set;
        }

        boolean areCoinsRight() {
            int paidByGoods = 0;
            int backToGoods = 0;
            for (int good = 0; good < goodCount; good++) {
                paidByGoods += goods.get(good, PAID);
                backToGoods += goods.get(good, BACK);
            }
            return purse == given + drawnBack - paid && paid == paidByGoods && drawnBack == backToGoods;
        }

        boolean areHeadingsRight() {
            for (int good = 0; good < goodCount; good++) {
                if (fittingRow(good, TOP_RANK) != keptRow(good)) {
                    return false;
                }
            }
            return true;
        }
    }

    /** Carries out changes, one by one, and keeps the reason for what it refused last. */
    private static final class Clerk {
        final House house = new House();
        int reason = NOTHING;
        int detail = NOTHING;

        Clerk() {
        }

        int refuse(int because, int about) {
            reason = because;
            detail = about;
            return REFUSED;
        }

        int setUp(int code, int fibre, int form, int rate, int perKilo) {
            if (!isWithin(code, 1, LAST_CODE - 1) || !isWithin(fibre, 0, ANY_FIBRE)
                || !isWithin(form, 0, ANY_FORM) || !isWithin(rate, 0, 60) || !isWithin(perKilo, 0, 20)) {
                return BAD;
            }
            if (house.rowOfCode(code) >= 0) {
                return refuse(SAME_CODE, code);
            }
            if (house.headingCount > MOST_HEADINGS) {
                return refuse(NO_ROOM, MOST_HEADINGS);
            }
            int row = house.headingCount;
            while (row > 0 && house.headings.get(row - 1, CODE) > code) {
                house.headings.copyRow(row - 1, row);
                row--;
            }
            house.headings.set(row, CODE, code);
            house.headings.set(row, FIBRE, fibre);
            house.headings.set(row, FORM, form);
            house.headings.set(row, RATE, rate);
            house.headings.set(row, PER_KILO, perKilo);
            house.headingCount++;
            return house.headingCount - 1;
        }

        int strikeOut(int code) {
            int struck = house.rowOfCode(code);
            if (struck < 0 || code == LAST_CODE) {
                return NONE;
            }
            house.headingCount--;
            for (int row = struck; row < house.headingCount; row++) {
                house.headings.copyRow(row + 1, row);
            }
            return house.headingCount - 1;
        }

        int takeIn(int form, int kilos, int coins, int silk, int wool, int cotton) {
            if (!isWithin(form, 0, ANY_FORM - 1) || !isWithin(kilos, 1, 99) || !isWithin(coins, 1, 999)
                || !isWithin(silk, 0, 100) || !isWithin(wool, 0, 100) || !isWithin(cotton, 0, 100)
                || silk + wool + cotton > 100) {
                return BAD;
            }
            int good = house.goodCount;
            if (good >= MOST_GOODS) {
                return refuse(NO_ROOM, good);
            }
            // All else in the row is 0: undo and restore take over the empty rows, too.
            Table goods = house.goods;
            goods.set(good, MADE_AS, form);
            goods.set(good, KILOS, kilos);
            goods.set(good, WORTH, coins);
            goods.set(good, STATUS, IN_BOND);
            goods.set(good, ENTRY_DAY, NOTHING);
            goods.set(good, PART, silk);
            goods.set(good, PART + 1, wool);
            goods.set(good, PART + 2, cotton);
            goods.set(good, PART + 3, 100 - silk - wool - cotton);
            goods.set(good, CHIEF, chiefFibre(good));
            house.goodCount++;
            return good;
        }

        private int chiefFibre(int good) {
            int chief = 0;
            for (int fibre = 1; fibre < FIBRES; fibre++) {
                if (house.goods.get(good, PART + fibre) >= house.goods.get(good, PART + chief)) {
                    chief = fibre;
                }
            }
            return chief;
        }

        int workOn(int good, int country, int points) {
            if (!house.hasGood(good) || !isCountry(country)) {
                return NONE;
            }
            if (!isWithin(points, 1, 99)) {
                return BAD;
            }
            Table goods = house.goods;
            int status = goods.get(good, STATUS);
            if (status != IN_BOND) {
                return refuse(WRONG_STATUS, status);
            }
            int workings = goods.get(good, WORKINGS);
            if (workings >= MOST_WORKINGS) {
                return refuse(NO_ROOM, workings);
            }
            int sum = goods.get(good, POINTS + country) + points;
            goods.set(good, POINTS + country, sum);
            goods.set(good, WORKINGS, workings + 1);
            goods.set(good, LAST_WORKING + country, workings + 1);
            house.workings++;
            return sum;
        }

        int favourCountry(int country, int hundredths) {
            if (!isCountry(country)) {
                return NONE;
            }
            if (!isWithin(hundredths, 0, 100)) {
                return BAD;
            }
            int before = house.favours.get(0, country);
            house.favours.set(0, country, hundredths);
            return before;
        }

        int give(int coins) {
            if (!isWithin(coins, 1, 9999)) {
                return BAD;
            }
            house.given += coins;
            house.purse += coins;
            return house.purse;
        }

        int letIn(int good) {
            if (!house.hasGood(good)) {
                return NONE;
            }
            int status = house.goods.get(good, STATUS);
            if (status != IN_BOND) {
                return refuse(WRONG_STATUS, status);
            }
            int origin = house.originOf(good);
            if (origin < 0) {
                return refuse(NEVER_WORKED_ON, good);
            }
            int duty = house.dutyFrom(good, origin);
            if (duty > house.purse) {
                return refuse(TOO_FEW_COINS, duty - house.purse);
            }
            house.purse -= duty;
            house.paid += duty;
            house.goods.set(good, STATUS, ENTERED);
            house.goods.set(good, PAID, duty);
            house.goods.set(good, ENTRY_DAY, house.day);
            return duty;
        }

        int letOut(int good) {
            if (!house.hasGood(good)) {
                return NONE;
            }
            int status = house.goods.get(good, STATUS);
            if (status == EXPORTED) {
                return refuse(WRONG_STATUS, status);
            }
            int back = 0;
            if (status == ENTERED && house.day - house.goods.get(good, ENTRY_DAY) <= DRAWBACK_DAYS) {
                back = house.goods.get(good, PAID) * 9 / 10;
            }
            house.purse += back;
            house.drawnBack += back;
            house.goods.set(good, STATUS, EXPORTED);
            house.goods.set(good, BACK, back);
            return back;
        }

        int goBy(int days) {
            if (!isWithin(days, 1, 99)) {
                return BAD;
            }
            house.day += days;
            return house.day;
        }

        /** Carries out an order of a text; answers below 0 if it cannot be carried out. */
        int carryOut(Table orders, int order) {
            int first = orders.get(order, 1);
            int second = orders.get(order, 2);
            int third = orders.get(order, 3);
            int fourth = orders.get(order, 4);
            int fifth = orders.get(order, 5);
            switch (orders.get(order, 0)) {
                case HEAD_ORDER: return setUp(first, second, third, fourth, fifth);
                case STRIKE_ORDER: return strikeOut(first);
                case GOOD_ORDER: return takeIn(first, second, third, fourth, fifth, orders.get(order, 6));
                case WORK_ORDER: return workOn(first, second, third);
                case FAVOUR_ORDER: return favourCountry(first, second);
                case COINS_ORDER: return give(first);
                case ENTER_ORDER: return letIn(first);
                case EXPORT_ORDER: return letOut(first);
                default: return goBy(first);
            }
        }
    }

    /** The houses before the latest changes, and the snapshot. */
    private static final class History {
        // One more than can be undone: the free one keeps the house while a change is tried.
        private final House[] kept = new House[MOST_UNDONE + 1];
        private final House saved = new House();
        private boolean isSaved;
        private int free;
        int undoable;

        History() {
            for (int place = 0; place < kept.length; place++) {
                kept[place] = new House();
            }
        }

        void keep(House house) {
            House before = free >= 0 && free < kept.length ? kept[free] : null;
            if (before != null) {
                before.copyFrom(house);
            }
        }

        void takeBack(House house) {
            House before = free >= 0 && free < kept.length ? kept[free] : null;
            if (before != null) {
                house.copyFrom(before);
            }
        }

        /** Counts what was tried as a change, unless its answer is a code; answers the same. */
        int settle(int answer) {
            if (answer >= 0) {
                free = (free + 1) % (MOST_UNDONE + 1);
                undoable = Math.min(undoable + 1, MOST_UNDONE);
            }
            return answer;
        }

        int stepBack(House house) {
            if (undoable <= 0) {
                return NOTHING;
            }
            free = (free + MOST_UNDONE) % (MOST_UNDONE + 1);
            undoable--;
            takeBack(house);
            return undoable;
        }

        void saveFrom(House house) {
            saved.copyFrom(house);
            isSaved = true;
        }

        boolean restoreTo(House house) {
            if (isSaved) {
                house.copyFrom(saved);
                undoable = 0;
            }
            return isSaved;
        }
    }

    /** Puts goods in order by their duties. */
    private static final class Ranking {
        // The duty and the worth of each good, made anew each time: a duty is dear to find.
        private final Table sums = new Table(MOST_GOODS, 2);

        Ranking() {
        }

        int goodAt(House house, int place) {
            int count = house.goodCount;
            for (int good = 0; good < count; good++) {
                sums.set(good, 0, house.dutyFrom(good, house.originOf(good)));
                sums.set(good, 1, house.goods.get(good, WORTH));
            }
            for (int good = 0; good < count; good++) {
                if (countAheadOf(good, count) == place) {
                    return good;
                }
            }
            return NONE;
        }

        private int countAheadOf(int good, int count) {
            int ahead = 0;
            for (int other = 0; other < count; other++) {
                if (isAhead(other, good)) {
                    ahead++;
                }
            }
            return ahead;
        }

        private boolean isAhead(int good, int other) {
            int duty = sums.get(good, 0);
            int otherDuty = sums.get(other, 0);
            if (duty != otherDuty) {
                return duty > otherDuty;
            }
            int worth = sums.get(good, 1);
            int otherWorth = sums.get(other, 1);
            return worth != otherWorth ? worth < otherWorth : good < other;
        }
    }

    /** The text, and the orders that are read from it. */
    private static final class Text {
        final Table orders = new Table(MOST_ORDERS, ORDER_WIDTH);
        int length;
        private final char[] signs = new char[TEXT_ROOM];
        // Where the reading is; it stays at the fault once there is one.
        private int at;
        private boolean isWrong;

        Text() {
        }

        int add(int code) {
            if (!isWithin(code, 32, 126)) {
                return BAD;
            }
            if (length < 0 || length >= signs.length) {
                return FULL;
            }
            signs[length] = (char) code;
            length++;
            return length;
        }

        void empty() {
            length = 0;
        }

        /** Reads the orders; answers how many, or -1000 minus the fault position. */
        int read() {
            at = 0;
            isWrong = false;
            for (int order = 0; order < MOST_ORDERS; order++) {
                readOrder(order);
                if (!isWrong && at >= length) {
                    return order + 1;
                }
                readSign(';');
                if (isWrong) {
                    return FIRST_FAULT - at;
                }
            }
            return FIRST_FAULT - at;
        }

        private void readOrder(int order) {
            int kind = readWord();
            String form = formOf(kind);
            orders.set(order, 0, kind);
            int column = 1;
            for (int index = 0; index < form.length() && !isWrong; index++) {
                char sign = form.charAt(index);
                if (sign == ' ' || sign == '/' || sign == '=') {
                    readSign(sign);
                } else {
                    orders.set(order, column, readNumber(sign));
                    column++;
                }
            }
        }

        /** Reads the word of an order, with the blank behind it; answers its kind. */
        private int readWord() {
            int furthest = 0;
            for (int kind = 0; kind < ORDER_KINDS; kind++) {
                String word = wordOf(kind);
                int alike = countAlike(word);
                if (alike == word.length()) {
                    at += alike;
                    return kind;
                }
                furthest = Math.max(furthest, alike);
            }
            at += furthest;
            isWrong = true;
            return -1;
        }

        private int countAlike(String word) {
            int alike = 0;
            while (alike < word.length() && word.charAt(alike) == signAt(at + alike)) {
                alike++;
            }
            return alike;
        }

        private void readSign(char sign) {
            if (isWrong) {
                return;
            }
            if (signAt(at) == sign) {
                at++;
            } else {
                isWrong = true;
            }
        }

        /** Reads a number of the kind that a sign of an order's form stands for. */
        private int readNumber(char kind) {
            switch (kind) {
                case 'f': return readLetter("swcl*");
                case 'a': return readLetter("tcg*");
                case 'g': return readLetter("tcg");
                default: return readDigits(kind - '0');
            }
        }

        private int readLetter(String letters) {
            int number = letters.indexOf(signAt(at));
            if (number < 0) {
                isWrong = true;
            } else {
                at++;
            }
            return number;
        }

        private int readDigits(int most) {
            int number = 0;
            for (int digits = 0; digits < most; digits++) {
                char sign = signAt(at);
                if (sign < '0' || sign > '9') {
                    isWrong = digits == 0;
                    return number;
                }
                number = number * 10 + (sign - '0');
                at++;
            }
            return number;
        }

        /** The character at an index, or one that no text has. */
        private char signAt(int index) {
            return index >= 0 && index < length && index < signs.length ? signs[index] : (char) 0;
        }

        private static String wordOf(int kind) {
            switch (kind) {
                case HEAD_ORDER: return "head ";
                case STRIKE_ORDER: return "strike ";
                case GOOD_ORDER: return "good ";
                case WORK_ORDER: return "work ";
                case FAVOUR_ORDER: return "favour ";
                case COINS_ORDER: return "coins ";
                case ENTER_ORDER: return "enter ";
                case EXPORT_ORDER: return "export ";
                default: return "day ";
            }
        }

        /**
         * What follows the word: a digit for a number of at most so many digits, f for a
         * fibre or any, a for a form or any, g for the form of a good, all else for itself.
         */
        private static String formOf(int kind) {
            switch (kind) {
                case HEAD_ORDER: return "2 fa 2 2";
                case GOOD_ORDER: return "g 2 3 3/3/3";
                case WORK_ORDER: return "2 1 2";
                case FAVOUR_ORDER: return "1=3";
                case COINS_ORDER: return "4";
                default: return "2";
            }
        }
    }

    /** The line. */
    private static final class Line {
        private final char[] signs = new char[LINE_ROOM];
        private int length;

        Line() {
        }

        int signAt(int index) {
            return index >= 0 && index < length && index < signs.length ? signs[index] : NONE;
        }

        int writeGood(House house, int good) {
            length = 0;
            putNumber(good);
            put(formLetter(house.goods.get(good, MADE_AS)));
            for (int fibre = 0; fibre < FIBRES; fibre++) {
                int part = house.goods.get(good, PART + fibre);
                if (part > 0) {
                    put(fibreLetter(fibre));
                    putNumber(part);
                }
            }
            put('=');
            putNumber(house.headings.get(house.fittingRow(good, TOP_RANK), CODE));
            return length;
        }

        int writeHeading(House house, int row) {
            length = 0;
            putNumber(house.headings.get(row, CODE));
            put(':');
            put(fibreLetter(house.headings.get(row, FIBRE)));
            put(formLetter(house.headings.get(row, FORM)));
            putNumber(house.headings.get(row, RATE));
            put('%');
            int perKilo = house.headings.get(row, PER_KILO);
            if (perKilo > 0) {
                put('+');
                putNumber(perKilo);
            }
            return length;
        }

        private void put(char sign) {
            if (length >= 0 && length < signs.length) {
                signs[length] = sign;
                length++;
            }
        }

        /** Puts a number from 0 to 999. */
        private void putNumber(int number) {
            if (number >= 100) {
                put((char) ('0' + number / 100 % 10));
            }
            if (number >= 10) {
                put((char) ('0' + number / 10 % 10));
            }
            put((char) ('0' + number % 10));
        }

        private static char fibreLetter(int fibre) {
            switch (fibre) {
                case 0: return 's';
                case 1: return 'w';
                case 2: return 'c';
                case 3: return 'l';
                default: return '*';
            }
        }

        private static char formLetter(int form) {
            switch (form) {
                case 0: return 't';
                case 1: return 'c';
                case 2: return 'g';
                default: return '*';
            }
        }
    }
}
