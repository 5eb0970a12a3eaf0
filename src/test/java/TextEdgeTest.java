import java.util.LinkedHashMap;
import java.util.Map;

// The edges that the sentences on texts and lines name: every sign behind every beginning of an order, the least and
// the most numbers of signs and of orders, the numbers that an order takes, and lines at their shortest and longest.
public final class TextEdgeTest extends Checks {
    private static final String DIGITS = "0123456789";
    private static final String FIRST = "hsgwfced";

    /** Beginnings of a text, and the signs with which each can continue; one with ";" among them is a whole text. */
    private static Map<String, String> continuations() {
        Map<String, String> next = new LinkedHashMap<>();
        for (String word : new String[] {"head ", "strike ", "good ", "work ", "favour ", "coins ", "enter ", "export ", "day "}) {
            for (int length = 1; length < word.length(); length++) {
                next.put(word.substring(0, length), word.substring(length, length + 1));
            }
        }
        next.put("", FIRST);
        next.put("e", "nx");
        for (String word : new String[] {"head ", "strike ", "work ", "favour ", "coins ", "enter ", "export ", "day "}) {
            next.put(word, DIGITS);
        }
        next.put("good ", "tcg");
        putHead(next);
        putGood(next);
        next.put("work 0", DIGITS + " ");
        next.put("work 11", " ");
        next.put("work 1 ", DIGITS);
        next.put("work 99 ", DIGITS);
        next.put("work 1 0", " ");
        next.put("work 1 9", " ");
        next.put("work 1 9 ", DIGITS);
        next.put("work 1 9 0", DIGITS + ";");
        next.put("work 1 9 99", ";");
        next.put("favour 0", "=");
        next.put("favour 9", "=");
        next.put("favour 9=", DIGITS);
        next.put("favour 9=0", DIGITS + ";");
        next.put("favour 9=00", DIGITS + ";");
        next.put("favour 9=100", ";");
        next.put("favour 9=999", ";");
        for (String coins : new String[] {"0", "00", "000", "9", "99", "999"}) {
            next.put("coins " + coins, DIGITS + ";");
        }
        next.put("coins 0000", ";");
        next.put("coins 9999", ";");
        for (String word : new String[] {"strike ", "enter ", "export ", "day "}) {
            next.put(word + "0", DIGITS + ";");
            next.put(word + "9", DIGITS + ";");
            next.put(word + "00", ";");
            next.put(word + "99", ";");
        }
        return next;
    }

    private static void putHead(Map<String, String> next) {
        next.put("head 0", DIGITS + " ");
        next.put("head 9", DIGITS + " ");
        next.put("head 00", " ");
        next.put("head 99", " ");
        next.put("head 9 ", "swcl*");
        next.put("head 99 ", "swcl*");
        for (char fibre : "swcl*".toCharArray()) {
            next.put("head 9 " + fibre, "tcg*");
            for (char form : "tcg*".toCharArray()) {
                next.put("head 9 " + fibre + form, " ");
            }
        }
        next.put("head 99 ** ", DIGITS);
        next.put("head 9 st 0", DIGITS + " ");
        next.put("head 9 st 99", " ");
        next.put("head 9 st 99 ", DIGITS);
        next.put("head 9 st 9 ", DIGITS);
        next.put("head 9 st 9 0", DIGITS + ";");
        next.put("head 9 st 9 99", ";");
    }

    private static void putGood(Map<String, String> next) {
        for (char form : "tcg".toCharArray()) {
            next.put("good " + form, " ");
        }
        next.put("good t ", DIGITS);
        next.put("good t 0", DIGITS + " ");
        next.put("good t 99", " ");
        String start = "good t 99 ";
        for (String follower : new String[] {" ", "/", "/", ";"}) {
            next.put(start, DIGITS);
            next.put(start + "0", DIGITS + follower);
            next.put(start + "99", DIGITS + follower);
            next.put(start + "000", follower);
            next.put(start + "999", follower);
            start += "9" + follower;
        }
    }

    private static void everySign() {
        says("Terms", "The fault position of a text is the index of its first character with which no such text can continue, or its length if "
            + "it ends too early; words are looked at letter by letter.");
        for (Map.Entry<String, String> each : continuations().entrySet()) {
            for (String before : new String[] {"", "day 1;", "day 1;day 2;coins 9999;"}) {
                String start = before + each.getKey();
                boolean isWhole = each.getValue().indexOf(';') >= 0;
                int answer = run(new SilkTariff(), start);
                if (isWhole) {
                    due(answer > -1000 ? 1 : 0, 1);
                } else {
                    due(answer, -1000 - start.length());
                }
                for (char sign = 32; sign <= 126; sign++) {
                    dueNext(start, sign, each.getValue().indexOf(sign) >= 0);
                }
            }
        }
    }

    private static void dueNext(String start, char sign, boolean isTaken) {
        SilkTariff x = typed(new SilkTariff(), start);
        x.append(sign);
        int answer = x.run();
        int length = start.length();
        if (isTaken) {
            due(answer, answer == REFUSED || answer >= 1 ? answer : -1000 - (length + 1));
        } else {
            due(answer, -1000 - length);
        }
        due(x.account(12), 0);
        if (answer < 0) {
            due(x.account(0), 0);
        }
        // what stands behind the fault plays no part
        if (!isTaken && length < 50) {
            SilkTariff y = typed(new SilkTariff(), start);
            y.append(sign);
            typed(y, ";day 1;x");
            due(y.run(), -1000 - length);
        }
    }

    private static void textRoom() {
        says("Promise 22", "Returns the length of the text; BAD if the code is out of range; FULL if the text has 60 characters.");
        range(32, 126, BAD, code -> new SilkTariff().append(code));
        SilkTariff x = new SilkTariff();
        for (int length = 1; length <= 60; length++) {
            due(x.append(length % 2 == 0 ? 32 : 126), length);
            due(x.account(12), length);
        }
        for (int code : new int[] {32, 65, 126}) {
            due(x.append(code), FULL);
        }
        for (int code : new int[] {31, 127, -1, 0, 128, 32 + 256, 65 + 65536, LOW, HIGH}) {
            due(x.append(code), BAD);
        }
        due(x.account(12), 60);
        due(x.run(), -1000);
        due(x.account(12), 0);
        due(x.append(32), 1);
    }

    private static void numberOfOrders() {
        says("Terms", "A text has one or more orders with \";\" between them");
        SilkTariff x = new SilkTariff();
        due(x.run(), -1000);
        due(run(x, ";"), -1000);
        due(run(x, ";day 1"), -1000);
        due(run(x, "day 1"), 1);
        due(run(x, "day 1;"), -1006);
        due(run(x, "day 1;;day 1"), -1006);
        due(run(x, "day 1 ;day 1"), -1005);
        due(run(x, "day 1; day 1"), -1006);
        due(run(x, "day 1day 1"), -1005);
        due(x.account(0), 1);
        String text = "day 1";
        for (int orders = 2; orders <= 10; orders++) {
            text += ";day 1";
            due(run(new SilkTariff(), text), orders);
        }
        due(text.length(), 59);
        due(run(new SilkTariff(), text + ";"), -1060);
        due(run(new SilkTariff(), text + "0"), 10);
        due(run(new SilkTariff(), text + "x"), -1059);
        due(run(new SilkTariff(), text + ";day 1"), -1060);
        due(run(new SilkTariff(), text + "00"), 10);
        // the last sign of a full text
        due(run(new SilkTariff(), "day 11;day 1;day 1;day 1;day 1;day 1;day 1;day 1;day 1;day "), -1059);
        due(run(new SilkTariff(), "day 11;day 11;day 1;day 1;day 1;day 1;day 1;day 1;day 1;day "), -1060);
        due(run(new SilkTariff(), "day 11;day 11;day 11;day 11;day 11;day 11;day 11;day 11;"), -1056);
    }

    private static void dueHeading(String order, int code, int fibre, int form, int rate, int perKilo) {
        SilkTariff x = new SilkTariff();
        due(run(x, order), 1);
        int[] numbers = {fibre, form, rate, perKilo};
        for (int what = 0; what < 4; what++) {
            due(x.headingOf(code, what), numbers[what]);
        }
    }

    private static void lettersOfHeadings() {
        says("Terms", "\"head \", a code, a blank, a fibre as \"s\", \"w\", \"c\", \"l\" or \"*\" for any, a form as \"t\", \"c\", \"g\" or "
            + "\"*\" for any, a blank, a rate, a blank, and the coins for a kilo");
        for (int fibre = 0; fibre <= 4; fibre++) {
            for (int form = 0; form <= 3; form++) {
                dueHeading("head 7 " + "swcl*".charAt(fibre) + "tcg*".charAt(form) + " 8 9", 7, fibre, form, 8, 9);
            }
        }
        says("Terms", "The two letters of a heading in a text have nothing between them.");
        due(run(new SilkTariff(), "head 5 s c 2 3"), -1008);
        due(run(new SilkTariff(), "head 5 s/c 2 3"), -1008);
        due(run(new SilkTariff(), "head 5 s,c 2 3"), -1008);
        dueHeading("head 5 sc 2 3", 5, 0, 1, 2, 3);
        says("Terms", "\"good \", a form as \"t\", \"c\" or \"g\", a blank, kilos, a blank, coins, a blank, and the parts of silk, wool and "
            + "cotton with \"/\" between two");
        for (int form = 0; form <= 2; form++) {
            SilkTariff x = new SilkTariff();
            due(run(x, "good " + "tcg".charAt(form) + " 12 345 6/07/008"), 1);
            int[] numbers = {form, 12, 345, 0, 3};
            int[] parts = {6, 7, 8, 79};
            for (int what = 0; what < 5; what++) {
                due(x.goodOf(0, what), numbers[what]);
            }
            for (int fibre = 0; fibre < 4; fibre++) {
                due(x.part(0, fibre), parts[fibre]);
            }
        }
        due(run(new SilkTariff(), "good * 1 1 1/1/1"), -1005);
    }

    private static void lengthsOfNumbers() {
        says("Terms", "Countries have one digit, coins of goods, parts and hundredths one to three, those of the merchant one to four, all "
            + "else one or two.");
        dueHeading("head 05 ** 06 07", 5, 4, 3, 6, 7);
        dueHeading("head 98 ** 60 20", 98, 4, 3, 60, 20);
        dueHeading("head 1 ** 0 0", 1, 4, 3, 0, 0);
        dueHeading("head 01 ** 00 00", 1, 4, 3, 0, 0);
        SilkTariff x = new SilkTariff();
        due(run(x, "good t 1 1 0/0/0;good t 01 001 000/000/000"), 2);
        due(run(x, "good t 99 999 100/0/00;good t 09 99 10/010/1"), 2);
        int[][] goods = {{1, 1, 0, 0, 0}, {1, 1, 0, 0, 0}, {99, 999, 100, 0, 0}, {9, 99, 10, 10, 1}};
        for (int good = 0; good < 4; good++) {
            due(x.goodOf(good, 1), goods[good][0]);
            due(x.goodOf(good, 2), goods[good][1]);
            for (int fibre = 0; fibre < 3; fibre++) {
                due(x.part(good, fibre), goods[good][2 + fibre]);
            }
        }
        due(run(x, "work 0 4 9;work 00 4 09;work 03 0 99"), 3);
        due(x.points(0, 4), 18);
        due(x.points(3, 0), 99);
        due(run(x, "favour 0=1;favour 1=01;favour 2=001;favour 3=99;favour 4=100"), 5);
        int[] favours = {1, 1, 1, 99, 100};
        for (int country = 0; country < 5; country++) {
            due(x.favour(country, 0), favours[country]);
        }
        due(run(x, "coins 1;coins 02;coins 003;coins 0004;coins 9999"), 5);
        due(x.account(7), 10009);
        due(run(x, "enter 00;export 03;export 1;export 0"), 4);
        due(run(x, "day 1;day 09;day 99"), 3);
        due(x.account(0), 109);
        // one digit more than there can be, and none
        String[] faults = {"head 100", "head 5 ** 100", "head 5 ** 1 100", "strike 100", "good t 100", "good t 1 1000", "good t 1 1 1000",
            "good t 1 1 1/1000", "good t 1 1 1/1/1000", "work 100", "work 1 10", "work 1 1 100", "favour 10", "favour 1=1000",
            "coins 10000", "enter 100", "export 100", "day 100"};
        for (String fault : faults) {
            SilkTariff y = new SilkTariff();
            due(run(y, fault), -1000 - (fault.length() - 1));
            String none = fault.replaceAll("\\d+$", "");
            due(run(y, none), -1000 - none.length());
            due(run(y, none + "-"), -1000 - none.length());
            due(run(y, none + "+1"), -1000 - none.length());
        }
    }

    /** Numbers in an order, with the answer of a run of this order alone in a house with twelve goods. */
    private static void numbersOfOrders() {
        says("Promise 23", "Returns how many orders; -1000 minus the fault position if the text is wrong; REFUSED for the reason 6.");
        String[] taken = {"head 1 ** 0 0", "head 98 ** 60 20", "good t 1 1 0/0/0", "good g 99 999 0/0/100", "good c 1 1 33/33/34",
            "work 0 0 1", "work 11 4 99", "favour 0=0", "favour 4=100", "coins 1", "coins 9999", "export 0", "export 11", "day 1", "day 99",
            "strike 50", "enter 5"};
        for (String order : taken) {
            SilkTariff x = twelveGoods(order.startsWith("good"));
            due(run(x, order), 1);
            dueReason(x, NOTHING, NOTHING);
            due(x.account(13), 8);
        }
        String[] refused = {"head 0 ** 0 0", "head 00 ** 0 0", "head 99 ** 0 0", "head 50 ** 0 0", "head 1 ** 61 0", "head 1 ** 99 0",
            "head 1 ** 0 21", "head 1 ** 0 99", "strike 0", "strike 49", "strike 51", "strike 99", "good t 0 1 0/0/0", "good t 1 0 0/0/0",
            "good t 1 1 101/0/0", "good t 1 1 0/101/0", "good t 1 1 0/0/101", "good t 1 1 33/33/35", "good t 1 1 999/999/999", "work 12 0 1",
            "work 99 0 1", "work 0 5 1", "work 0 9 1", "work 0 0 0", "work 0 0 00", "favour 5=0", "favour 9=0", "favour 0=101", "favour 0=999",
            "coins 0", "coins 00", "coins 000", "coins 0000", "enter 0", "enter 12", "enter 99", "export 12", "export 99", "day 0", "day 00"};
        for (String order : refused) {
            SilkTariff x = twelveGoods(order.startsWith("good"));
            due(run(x, order), REFUSED);
            dueReason(x, 6, 0);
            due(run(x, "day 1;coins 1;" + order + ";day 1"), REFUSED);
            dueReason(x, 6, 2);
            due(x.account(0), 0);
            due(x.account(6), 300);
        }
        SilkTariff full = twelveGoods(false);
        due(run(full, "good t 1 1 0/0/0"), REFUSED);
        dueReason(full, 6, 0);
    }

    private static SilkTariff twelveGoods(boolean isOneLess) {
        SilkTariff x = new SilkTariff();
        x.heading(50, 0, 0, 30, 0);
        x.coins(300);
        for (int good = 0; good < (isOneLess ? 11 : 12); good++) {
            x.good(0, 1, 100, 0, 0, 0);
        }
        x.work(5, 0, 1);
        return x;
    }

    private static void allOrNone() {
        says("Terms", "The orders are carried out one after the other, all or none.");
        SilkTariff x = new SilkTariff();
        due(run(x, "coins 30;enter 0"), REFUSED);
        dueReason(x, 6, 1);
        due(run(x, "good t 1 100 0/0/0;work 0 0 1;enter 0;coins 30"), REFUSED);
        dueReason(x, 6, 2);
        due(x.account(2), 0);
        due(x.account(13), 0);
        due(run(x, "good t 1 100 0/0/0;work 0 0 1;coins 30;enter 0;export 0"), 5);
        due(x.account(9), 27);
        due(x.account(13), 1);
        // the order that is refused is the first, each one between, the last; the tenth is the last that there can be
        for (int order = 0; order < 10; order++) {
            StringBuilder text = new StringBuilder();
            for (int other = 0; other < 10; other++) {
                text.append(other == 0 ? "" : ";").append(other == order ? "day 0" : "day 1");
            }
            SilkTariff y = new SilkTariff();
            due(run(y, text.toString()), REFUSED);
            dueReason(y, 6, order);
            due(y.account(0), 0);
            due(y.account(12), 0);
            due(y.account(13), 0);
            due(y.undo(), NOTHING);
        }
        // the first order that cannot be carried out counts, not the last one
        due(run(x, "day 1;strike 1;day 0"), REFUSED);
        dueReason(x, 6, 1);
        // a fault of the text counts before an order that cannot be carried out
        due(run(x, "strike 1;day 1;dax 1"), -1017);
        dueReason(x, 6, 1);
        SilkTariff nine = new SilkTariff();
        for (int code = 1; code <= 9; code++) {
            nine.heading(code, 4, 3, 0, 0);
        }
        due(run(nine, "head 10 ** 0 0;head 11 ** 0 0"), REFUSED);
        dueReason(nine, 6, 1);
        due(nine.account(1), 9);
        due(run(nine, "head 10 ** 0 0;strike 1;head 11 ** 0 0;strike 2"), 4);
        due(nine.account(1), 9);
        due(run(nine, "head 2 ** 0 0;head 2 ** 0 0"), REFUSED);
        dueReason(nine, 6, 1);
        due(run(nine, "strike 3;strike 3"), REFUSED);
        dueReason(nine, 6, 1);
        due(nine.headingOf(3, 2), 0);
        SilkTariff six = new SilkTariff();
        six.good(0, 1, 1, 0, 0, 0);
        due(run(six, "work 0 0 9;work 0 0 9;work 0 0 9;work 0 0 9;work 0 0 9"), 5);
        due(run(six, "work 0 0 9;work 0 1 9"), REFUSED);
        dueReason(six, 6, 1);
        due(six.points(0, 0), 45);
        due(six.account(10), 5);
        due(run(six, "work 0 0 9"), 1);
        due(run(six, "export 0;work 0 0 9"), REFUSED);
        due(six.goodOf(0, 3), 0);
    }

    private static void drawbacksInTexts() {
        says("Terms", "\"enter \" and a good; \"export \" and a good; or \"day \" and how many go by");
        String goods = "good t 1 100 0/0/0;work 0 0 1;coins 30;enter 0";
        int[][] waits = {{1, 27}, {30, 27}, {31, 0}, {99, 0}};
        for (int[] each : waits) {
            SilkTariff x = new SilkTariff();
            due(run(x, goods), 4);
            due(run(x, "day " + each[0] + ";export 0"), 2);
            due(x.account(9), each[1]);
        }
        SilkTariff x = new SilkTariff();
        due(run(x, goods + ";export 0"), 5);
        due(x.account(9), 27);
        due(run(x, "export 0"), REFUSED);
        dueReason(x, 6, 0);
    }

    private static void dueGoodLine(int good, int form, int silk, int wool, int cotton, String line) {
        SilkTariff x = new SilkTariff();
        for (int other = 0; other < good; other++) {
            x.good(0, 1, 1, 1, 1, 1);
        }
        x.good(form, 1, 1, silk, wool, cotton);
        due(x.tell(good), line.length());
        dueText(line(x), line);
    }

    private static void goodLines() {
        says("Promise 24", "Returns the length of the line; NONE if there is no such good.");
        dueGoodLine(0, 0, 0, 0, 0, "0tl100=99");
        dueGoodLine(9, 1, 100, 0, 0, "9cs100=99");
        dueGoodLine(10, 2, 0, 100, 0, "10gw100=99");
        dueGoodLine(11, 2, 0, 0, 100, "11gc100=99");
        dueGoodLine(11, 2, 10, 10, 10, "11gs10w10c10l70=99");
        dueGoodLine(1, 1, 1, 0, 0, "1cs1l99=99");
        dueGoodLine(1, 1, 99, 1, 0, "1cs99w1=99");
        dueGoodLine(1, 1, 1, 1, 98, "1cs1w1c98=99");
        dueGoodLine(1, 1, 33, 33, 33, "1cs33w33c33l1=99");
        dueGoodLine(1, 1, 9, 10, 81, "1cs9w10c81=99");
        due(new SilkTariff().tell(0), NONE);
        SilkTariff x = new SilkTariff();
        for (int good = 0; good < 12; good++) {
            x.good(1, 1, 1, 40, 60, 0);
        }
        due(x.tell(11), 12);
        for (int good : new int[] {12, -1, 13, 256, 65536, LOW, HIGH}) {
            due(x.tell(good), NONE);
            dueText(line(x), "11cs40w60=99");
        }
        int[] codes = {1, 9, 10, 50, 98};
        for (int code : codes) {
            x.heading(code, 1, 1, 0, 0);
            due(x.tell(3), code < 10 ? 10 : 11);
            dueText(line(x), "3cs40w60=" + code);
        }
    }

    private static void dueHeadingLine(int code, int fibre, int form, int rate, int perKilo, String line) {
        SilkTariff x = new SilkTariff();
        x.heading(code, fibre, form, rate, perKilo);
        due(x.tellHeading(code), line.length());
        dueText(line(x), line);
        due(x.character(line.length()), NONE);
    }

    private static void headingLines() {
        says("Promise 25", "Returns the length of the line; NONE if there is no such heading.");
        dueHeadingLine(1, 0, 0, 0, 0, "1:st0%");
        dueHeadingLine(9, 1, 1, 9, 1, "9:wc9%+1");
        dueHeadingLine(10, 2, 2, 10, 9, "10:cg10%+9");
        dueHeadingLine(50, 0, 1, 20, 3, "50:sc20%+3");
        dueHeadingLine(98, 4, 3, 60, 20, "98:**60%+20");
        dueHeadingLine(98, 3, 3, 60, 10, "98:l*60%+10");
        dueHeadingLine(98, 4, 0, 1, 0, "98:*t1%");
        SilkTariff x = new SilkTariff();
        due(x.tellHeading(1), NONE);
        dueText(line(x), "");
        due(x.tellHeading(99), 8);
        x.heading(50, 0, 0, 0, 0);
        for (int code : new int[] {0, 1, 49, 51, 98, 100, -1, 50 + 256, 50 + 65536, LOW, HIGH}) {
            due(x.tellHeading(code), NONE);
            dueText(line(x), "99:**30%");
        }
        due(x.tellHeading(50), 7);
        x.strike(50);
        dueText(line(x), "50:st0%");
        due(x.tellHeading(50), NONE);
    }

    private static void characters() {
        says("Promise 26", "Returns a character of the line, which is empty at first.");
        for (int index : new int[] {0, 1, -1, 59, 60, LOW, HIGH}) {
            due(new SilkTariff().character(index), NONE);
        }
        says("Promise 26", "Returns the code of the character; NONE if there is none.");
        SilkTariff x = new SilkTariff();
        x.heading(98, 4, 3, 60, 20);
        x.heading(1, 0, 0, 0, 0);
        due(x.tellHeading(98), 11);
        due(x.character(0), '9');
        due(x.character(10), '0');
        for (int index : new int[] {11, 12, -1, 256, 65536, LOW, HIGH}) {
            due(x.character(index), NONE);
        }
        // nothing of a longer line is left behind a shorter one
        due(x.tellHeading(1), 6);
        due(x.character(5), '%');
        for (int index = 6; index <= 11; index++) {
            due(x.character(index), NONE);
        }
        // the text is not the line
        typed(x, "abc");
        due(x.character(0), '1');
        due(x.run(), -1000);
        due(x.character(0), '1');
    }

    public static void main(String[] args) {
        everySign();
        textRoom();
        numberOfOrders();
        lettersOfHeadings();
        lengthsOfNumbers();
        numbersOfOrders();
        allOrNone();
        drawbacksInTexts();
        goodLines();
        headingLines();
        characters();
        end();
    }
}
