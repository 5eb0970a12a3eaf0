import java.util.ArrayList;
import java.util.Comparator;
import java.util.List;
import java.util.Random;
import java.util.regex.Matcher;
import java.util.regex.Pattern;

// Runs of calls, with seeds that stay the same, on the class and on a model that is written
// another way: lists that are copied, sorting, and texts by regular expressions.
public final class ModelTest {
    private static final int NONE = -11;
    private static final int BAD = -12;
    private static final int FULL = -13;
    private static final int REFUSED = -14;
    private static final int NOTHING = -15;

    private static final int RUNS = 4500;
    // What later calls answer is free; a step makes at most so many calls, with what is compared behind it and at the end.
    private static final int CALLS = 512;
    private static final int STEP_CALLS = 62 + 21 + 21 + 37;

    private record Heading(int code, int fibre, int form, int rate, int perKilo) {
    }

    private record Working(int country, int points) {
    }

    private static final class Good {
        int number;
        int form;
        int kilos;
        int worth;
        int[] parts;
        int status;
        int paid;
        int back;
        int day = NOTHING;
        List<Working> workings = new ArrayList<>();

        Good copy() {
            Good copy = new Good();
            copy.number = number;
            copy.form = form;
            copy.kilos = kilos;
            copy.worth = worth;
            copy.parts = parts;
            copy.status = status;
            copy.paid = paid;
            copy.back = back;
            copy.day = day;
            copy.workings = new ArrayList<>(workings);
            return copy;
        }

        int points(int country) {
            return workings.stream().filter(w -> w.country == country).mapToInt(w -> w.points).sum();
        }

        int chief() {
            int most = Math.max(Math.max(parts[0], parts[1]), Math.max(parts[2], parts[3]));
            for (int fibre = 3; fibre > 0; fibre--) {
                if (parts[fibre] == most) {
                    return fibre;
                }
            }
            return 0;
        }

        int origin() {
            int most = 0;
            for (Working w : workings) {
                most = Math.max(most, points(w.country));
            }
            for (int i = workings.size() - 1; i >= 0; i--) {
                if (points(workings.get(i).country) == most) {
                    return workings.get(i).country;
                }
            }
            return NOTHING;
        }
    }

    private static final class State {
        List<Heading> headings = new ArrayList<>();
        List<Good> goods = new ArrayList<>();
        int[] favours = new int[5];
        int day;
        int given;

        State copy() {
            State copy = new State();
            copy.headings = new ArrayList<>(headings);
            for (Good good : goods) {
                copy.goods.add(good.copy());
            }
            copy.favours = favours.clone();
            copy.day = day;
            copy.given = given;
            return copy;
        }

        int paid() {
            return goods.stream().mapToInt(g -> g.paid).sum();
        }

        int back() {
            return goods.stream().mapToInt(g -> g.back).sum();
        }

        int purse() {
            return given - paid() + back();
        }

        List<Heading> all() {
            List<Heading> all = new ArrayList<>(headings);
            all.sort(Comparator.comparingInt(Heading::code));
            all.add(new Heading(99, 4, 3, 30, 0));
            return all;
        }

        Heading find(int code) {
            return all().stream().filter(h -> h.code == code).findFirst().orElse(null);
        }

        List<Heading> fits(Good good) {
            List<Heading> fits = new ArrayList<>();
            for (Heading h : all()) {
                if ((h.fibre == 4 || h.fibre == good.chief()) && (h.form == 3 || h.form == good.form)) {
                    fits.add(h);
                }
            }
            fits.sort(Comparator.comparing((Heading h) -> h.code == 99)
                .thenComparing(h -> h.fibre == 4)
                .thenComparing(h -> h.form == 3)
                .thenComparing(h -> -h.code));
            return fits;
        }

        int duty(Good good, int country) {
            Heading h = fits(good).get(0);
            int duty = Math.max((int) Math.floor(good.worth * h.rate / 100.0), good.kilos * h.perKilo);
            int hundredths = country < 0 ? 0 : favours[country];
            return duty - (int) Math.floor(duty * hundredths / 100.0);
        }
    }

    private static final class Model {
        State state = new State();
        List<State> before = new ArrayList<>();
        State saved;
        String text = "";
        String line = "";
        int reason = NOTHING;
        int detail = NOTHING;

        private static boolean in(int number, int least, int most) {
            return least <= number && number <= most;
        }

        private int refuse(int because, int about) {
            reason = because;
            detail = about;
            return REFUSED;
        }

        Good goodAt(int good) {
            return in(good, 0, state.goods.size() - 1) ? state.goods.get(good) : null;
        }

        int change(int kind, int[] a) {
            State old = state.copy();
            int answer = tryChange(kind, a);
            if (answer >= 0) {
                remember(old);
            }
            return answer;
        }

        private void remember(State old) {
            before.add(old);
            if (before.size() > 8) {
                before.remove(0);
            }
        }

        private int tryChange(int kind, int[] a) {
            switch (kind) {
                case 0:
                    if (!in(a[0], 1, 98) || !in(a[1], 0, 4) || !in(a[2], 0, 3) || !in(a[3], 0, 60) || !in(a[4], 0, 20)) {
                        return BAD;
                    }
                    if (state.find(a[0]) != null) {
                        return refuse(2, a[0]);
                    }
                    if (state.headings.size() == 10) {
                        return refuse(1, 10);
                    }
                    state.headings.add(new Heading(a[0], a[1], a[2], a[3], a[4]));
                    return state.headings.size();
                case 1:
                    return state.headings.removeIf(h -> h.code == a[0]) ? state.headings.size() : NONE;
                case 2:
                    if (!in(a[0], 0, 2) || !in(a[1], 1, 99) || !in(a[2], 1, 999) || a[3] < 0 || a[4] < 0 || a[5] < 0
                        || (long) a[3] + a[4] + a[5] > 100) {
                        return BAD;
                    }
                    if (state.goods.size() == 12) {
                        return refuse(1, 12);
                    }
                    Good made = new Good();
                    made.number = state.goods.size();
                    made.form = a[0];
                    made.kilos = a[1];
                    made.worth = a[2];
                    made.parts = new int[] {a[3], a[4], a[5], 100 - a[3] - a[4] - a[5]};
                    state.goods.add(made);
                    return made.number;
                case 3:
                    return work(goodAt(a[0]), a[1], a[2]);
                case 4:
                    if (!in(a[0], 0, 4)) {
                        return NONE;
                    }
                    if (!in(a[1], 0, 100)) {
                        return BAD;
                    }
                    int earlier = state.favours[a[0]];
                    state.favours[a[0]] = a[1];
                    return earlier;
                case 5:
                    if (!in(a[0], 1, 9999)) {
                        return BAD;
                    }
                    state.given += a[0];
                    return state.purse();
                case 6:
                    return enter(goodAt(a[0]));
                case 7:
                    return export(goodAt(a[0]));
                default:
                    if (!in(a[0], 1, 99)) {
                        return BAD;
                    }
                    state.day += a[0];
                    return state.day;
            }
        }

        private int work(Good good, int country, int points) {
            if (good == null || !in(country, 0, 4)) {
                return NONE;
            }
            if (!in(points, 1, 99)) {
                return BAD;
            }
            if (good.status != 0) {
                return refuse(3, good.status);
            }
            if (good.workings.size() == 6) {
                return refuse(1, 6);
            }
            good.workings.add(new Working(country, points));
            return good.points(country);
        }

        private int enter(Good good) {
            if (good == null) {
                return NONE;
            }
            if (good.status != 0) {
                return refuse(3, good.status);
            }
            if (good.workings.isEmpty()) {
                return refuse(4, good.number);
            }
            int duty = state.duty(good, good.origin());
            if (duty > state.purse()) {
                return refuse(5, duty - state.purse());
            }
            good.paid = duty;
            good.status = 1;
            good.day = state.day;
            return duty;
        }

        private int export(Good good) {
            if (good == null) {
                return NONE;
            }
            if (good.status == 2) {
                return refuse(3, 2);
            }
            if (good.status == 1 && state.day - good.day <= 30) {
                good.back = good.paid * 9 / 10;
            }
            good.status = 2;
            return good.back;
        }

        private static final String NUMBER = "\\d{1,2}";
        private static final String ORDER = ("(?:head N [swcl*][tcg*] N N|strike N|good [tcg] N \\d{1,3} \\d{1,3}/\\d{1,3}/\\d{1,3}"
            + "|work N \\d N|favour \\d=\\d{1,3}|coins \\d{1,4}|enter N|export N|day N)").replace("N", NUMBER);
        private static final Pattern TEXT = Pattern.compile(ORDER + "(?:;" + ORDER + ")*");
        private static final String[] WORDS = {"head", "strike", "good", "work", "favour", "coins", "enter", "export", "day"};

        int run() {
            String orders = text;
            text = "";
            if (!TEXT.matcher(orders).matches()) {
                int fault = 0;
                for (int length = 1; length <= orders.length(); length++) {
                    Matcher prefix = TEXT.matcher(orders.substring(0, length));
                    if (prefix.matches() || prefix.hitEnd()) {
                        fault = length;
                    }
                }
                return -1000 - fault;
            }
            State old = state.copy();
            String[] each = orders.split(";");
            for (int order = 0; order < each.length; order++) {
                if (carryOut(each[order]) < 0) {
                    state = old;
                    return refuse(6, order);
                }
            }
            remember(old);
            return each.length;
        }

        private int carryOut(String order) {
            String[] words = order.split("[ /=]");
            int kind = 0;
            while (!WORDS[kind].equals(words[0])) {
                kind++;
            }
            List<Integer> numbers = new ArrayList<>();
            for (int i = 1; i < words.length; i++) {
                String word = words[i];
                if (Character.isDigit(word.charAt(0))) {
                    numbers.add(Integer.parseInt(word));
                } else if (kind == 0) {
                    numbers.add("swcl*".indexOf(word.charAt(0)));
                    numbers.add("tcg*".indexOf(word.charAt(1)));
                } else {
                    numbers.add("tcg".indexOf(word));
                }
            }
            return tryChange(kind, numbers.stream().mapToInt(i -> i).toArray());
        }

        int headingOf(int code, int what) {
            Heading h = state.find(code);
            if (h == null) {
                return NONE;
            }
            if (what < 0 || what > 4) {
                return BAD;
            }
            int having = (int) state.goods.stream().filter(g -> state.fits(g).get(0).code == code).count();
            return new int[] {h.fibre, h.form, h.rate, h.perKilo, having}[what];
        }

        int goodOf(int number, int what) {
            Good g = goodAt(number);
            if (g == null) {
                return NONE;
            }
            if (what < 0 || what > 10) {
                return BAD;
            }
            return new int[] {g.form, g.kilos, g.worth, g.status, g.chief(), g.origin(), state.fits(g).get(0).code,
                state.duty(g, g.origin()), g.paid, g.back, g.day}[what];
        }

        int fit(int number, int place) {
            Good g = goodAt(number);
            return g == null || place < 0 || place >= state.fits(g).size() ? NONE : state.fits(g).get(place).code;
        }

        int why(int number) {
            Good g = goodAt(number);
            if (g == null) {
                return NONE;
            }
            List<Heading> fits = state.fits(g);
            if (fits.size() == 1) {
                return 0;
            }
            Heading first = fits.get(0);
            Heading second = fits.get(1);
            if (first.fibre != second.fibre) {
                return 1;
            }
            if (first.form != second.form) {
                return 2;
            }
            return second.code == 99 ? 4 : 3;
        }

        int cheapest(int number) {
            Good g = goodAt(number);
            if (g == null) {
                return NONE;
            }
            int best = 4;
            for (int country = 3; country >= 0; country--) {
                if (state.duty(g, country) <= state.duty(g, best)) {
                    best = country;
                }
            }
            return best;
        }

        int ranked(int place) {
            List<Good> goods = new ArrayList<>(state.goods);
            goods.sort(Comparator.comparingInt((Good g) -> -state.duty(g, g.origin()))
                .thenComparingInt(g -> g.worth)
                .thenComparingInt(g -> g.number));
            return in(place, 0, goods.size() - 1) ? goods.get(place).number : NONE;
        }

        int tell(int number) {
            Good g = goodAt(number);
            if (g == null) {
                return NONE;
            }
            line = number + "" + "tcg".charAt(g.form);
            for (int fibre = 0; fibre < 4; fibre++) {
                line += g.parts[fibre] == 0 ? "" : "swcl".charAt(fibre) + "" + g.parts[fibre];
            }
            line += "=" + state.fits(g).get(0).code;
            return line.length();
        }

        int tellHeading(int code) {
            Heading h = state.find(code);
            if (h == null) {
                return NONE;
            }
            line = h.code + ":" + "swcl*".charAt(h.fibre) + "tcg*".charAt(h.form) + h.rate + "%"
                + (h.perKilo == 0 ? "" : "+" + h.perKilo);
            return line.length();
        }

        int account(int what) {
            if (what < 0 || what > 13) {
                return BAD;
            }
            int[] count = new int[3];
            int workings = 0;
            for (Good g : state.goods) {
                count[g.status]++;
                workings += g.workings.size();
            }
            int set = 0;
            for (int country = 0; country < 5; country++) {
                set += state.favours[country] == 0 ? 0 : 1 << country;
            }
            return new int[] {state.day, state.headings.size(), state.goods.size(), count[0], count[1], count[2], state.purse(),
                state.given, state.paid(), state.back(), workings, set, text.length(), before.size()}[what];
        }

        double meanDuty() {
            return state.goods.stream().mapToInt(g -> state.duty(g, g.origin())).average().orElse(0.0);
        }

        int undo() {
            if (before.isEmpty()) {
                return NOTHING;
            }
            state = before.remove(before.size() - 1);
            return before.size();
        }

        int save() {
            saved = state.copy();
            return state.day;
        }

        int restore() {
            if (saved == null) {
                return NOTHING;
            }
            state = saved.copy();
            before.clear();
            return state.day;
        }

        int append(int code) {
            if (code < 32 || code > 126) {
                return BAD;
            }
            if (text.length() == 60) {
                return FULL;
            }
            text += (char) code;
            return text.length();
        }
    }

    private static Random random;
    private static int calls;
    private static boolean isOfTexts;
    private static int wrong;
    private static String place = "";

    private static void due(String call, double got, double want) {
        calls++;
        if (got != want) {
            wrong++;
            if (wrong < 20) {
                System.out.println(place + ": " + call + " answered " + got + ", due is " + want);
            }
        }
    }

    // Mostly a number of the range, now and then its edges or one far outside of it.
    private static int pick(int least, int most) {
        switch (random.nextInt(40)) {
            case 0: return least - 1;
            case 1: return most + 1;
            case 2: return random.nextInt();
            case 3: return most;
            case 4: return least;
            default: return least + random.nextInt(most - least + 1);
        }
    }

    private static int pickGood(Model m) {
        return pick(0, Math.max(m.state.goods.size() - 1, 0));
    }

    private static int pickCode(Model m) {
        List<Heading> all = m.state.all();
        return random.nextInt(4) == 0 ? pick(1, 98) : all.get(random.nextInt(all.size())).code;
    }

    private static int pickPart() {
        return random.nextInt(3) == 0 ? 0 : random.nextInt(5) == 0 ? pick(0, 100) : random.nextInt(7) * 5;
    }

    private static int pickWorth() {
        return random.nextBoolean() ? pick(1, 999) : 100 + random.nextInt(4);
    }

    private static int pickPoints() {
        return random.nextBoolean() ? 1 + random.nextInt(3) : pick(1, 99);
    }

    private static int pickDays() {
        return random.nextInt(3) == 0 ? pick(1, 99) : pick(1, 16);
    }

    private static String pad(int number) {
        return random.nextInt(6) == 0 && number >= 0 && number < 10 ? "0" + number : "" + number;
    }

    private static String order(Model m) {
        String heading = "" + "swcl*".charAt(random.nextInt(5)) + "tcg*".charAt(random.nextInt(4));
        switch (random.nextInt(9)) {
            case 0: return "head " + pad(pick(1, 98)) + " " + heading + " " + pad(pick(0, 60)) + " " + pad(pick(0, 20));
            case 1: return "strike " + pad(pickCode(m));
            case 2: return "good " + "tcg".charAt(random.nextInt(3)) + " " + pad(pick(1, 99)) + " " + pad(pick(1, 999)) + " "
                + pad(pickPart()) + "/" + pad(pickPart()) + "/" + pad(pickPart());
            case 3: return "work " + pad(pickGood(m)) + " " + pick(0, 4) + " " + pad(pick(1, 99));
            case 4: return "favour " + pick(0, 4) + "=" + pad(pick(0, 100));
            case 5: return "coins " + pad(pick(1, 9999));
            case 6: return "enter " + pad(pickGood(m));
            case 7: return "export " + pad(pickGood(m));
            default: return "day " + pad(pickDays());
        }
    }

    private static String someText(Model m) {
        StringBuilder text = new StringBuilder(order(m));
        int more = random.nextInt(6);
        for (int i = 0; i < more; i++) {
            String next = order(m);
            if (text.length() + next.length() < 60) {
                text.append(';').append(next);
            }
        }
        String signs = "headstrikgowfvucnpy0123456789 ;=/*tcgswl~";
        switch (random.nextInt(8)) {
            case 0: text.setCharAt(random.nextInt(text.length()), signs.charAt(random.nextInt(signs.length()))); break;
            case 1: text.deleteCharAt(random.nextInt(text.length())); break;
            case 2: text.insert(random.nextInt(text.length() + 1), signs.charAt(random.nextInt(signs.length()))); break;
            case 3: text.setLength(random.nextInt(text.length() + 1)); break;
            default: break;
        }
        return text.toString();
    }

    private static void oneText(SilkTariff x, Model m) {
        String text = someText(m);
        for (int i = 0; i < text.length(); i++) {
            due("append", x.append(text.charAt(i)), m.append(text.charAt(i)));
        }
        if (random.nextInt(10) > 0) {
            due("run of '" + m.text + "'", x.run(), m.run());
        }
    }

    private static void oneChange(SilkTariff x, Model m) {
        switch (random.nextInt(10)) {
            case 0: {
                int[] a = {pick(1, 98), pick(0, 4), pick(0, 3), pick(0, 60), random.nextBoolean() ? 0 : pick(0, 20)};
                due("heading", x.heading(a[0], a[1], a[2], a[3], a[4]), m.change(0, a));
                break;
            }
            case 1: {
                int code = random.nextInt(3) == 0 ? 99 : pickCode(m);
                due("strike", x.strike(code), m.change(1, new int[] {code}));
                break;
            }
            case 2: {
                int[] a = {pick(0, 2), pick(1, 99), pickWorth(), pickPart(), pickPart(), pickPart()};
                due("good", x.good(a[0], a[1], a[2], a[3], a[4], a[5]), m.change(2, a));
                break;
            }
            case 3: case 4: {
                int[] a = {pickGood(m), pick(0, 4), pickPoints()};
                due("work", x.work(a[0], a[1], a[2]), m.change(3, a));
                break;
            }
            case 5: {
                int[] a = {pick(0, 4), random.nextInt(4) == 0 ? 0 : pick(0, 100)};
                due("favour", x.favour(a[0], a[1]), m.change(4, a));
                break;
            }
            case 6: {
                int coins = random.nextInt(4) == 0 ? pick(1, 9999) : pick(1, 200);
                due("coins", x.coins(coins), m.change(5, new int[] {coins}));
                break;
            }
            case 7: {
                int good = pickGood(m);
                due("enter", x.enter(good), m.change(6, new int[] {good}));
                break;
            }
            case 8: {
                int good = pickGood(m);
                due("export", x.export(good), m.change(7, new int[] {good}));
                break;
            }
            default: {
                int days = pickDays();
                due("days", x.days(days), m.change(8, new int[] {days}));
                break;
            }
        }
    }

    private static void oneLook(SilkTariff x, Model m) {
        int good = pickGood(m);
        int country = pick(0, 4);
        int code = pickCode(m);
        Good g = m.goodAt(good);
        boolean isKnown = g != null && country >= 0 && country < 5;
        switch (random.nextInt(16)) {
            case 0: { int what = pick(0, 4); due("headingOf", x.headingOf(code, what), m.headingOf(code, what)); break; }
            case 1: {
                int at = pick(0, 10);
                List<Heading> all = m.state.all();
                due("code", x.code(at), at < 0 || at >= all.size() ? NONE : all.get(at).code);
                break;
            }
            case 2: case 3: { int what = pick(0, 10); due("goodOf " + what, x.goodOf(good, what), m.goodOf(good, what)); break; }
            case 4: {
                int fibre = pick(0, 3);
                due("part", x.part(good, fibre), g == null || fibre < 0 || fibre > 3 ? NONE : g.parts[fibre]);
                break;
            }
            case 5: due("points", x.points(good, country), isKnown ? g.points(country) : NONE); break;
            case 6: { int at = pick(0, 10); due("fit", x.fit(good, at), m.fit(good, at)); break; }
            case 7: due("fitAgain", x.fitAgain(good), m.fit(good, 0)); break;
            case 8: due("why", x.why(good), m.why(good)); break;
            case 9: due("would", x.would(good, country), isKnown ? m.state.duty(g, country) : NONE); break;
            case 10: due("cheapest", x.cheapest(good), m.cheapest(good)); break;
            case 11: { int at = pick(0, 11); due("ranked", x.ranked(at), m.ranked(at)); break; }
            case 12: due("tell", x.tell(good), m.tell(good)); break;
            case 13: due("tellHeading", x.tellHeading(code), m.tellHeading(code)); break;
            case 14: {
                int at = pick(0, 17);
                due("character", x.character(at), at < 0 || at >= m.line.length() ? NONE : m.line.charAt(at));
                break;
            }
            default: {
                int code2 = pick(32, 126);
                if (random.nextInt(5) == 0) {
                    due("append", x.append(code2), m.append(code2));
                }
                break;
            }
        }
    }

    private static void oneCall(SilkTariff x, Model m) {
        int kind = random.nextInt(100);
        if (kind < 50) {
            oneChange(x, m);
        } else if (kind < 80) {
            oneLook(x, m);
        } else if (kind < 92) {
            if (isOfTexts || random.nextInt(10) == 0) {
                oneText(x, m);
            } else {
                oneChange(x, m);
            }
        } else if (kind < 97) {
            due("undo", x.undo(), m.undo());
        } else if (kind < 98) {
            due("save", x.save(), m.save());
        } else if (kind < 99) {
            due("restore", x.restore(), m.restore());
        } else {
            int what = random.nextInt();
            due("account", x.account(what), m.account(what));
        }
    }

    private static void compareAll(SilkTariff x, Model m) {
        for (int what = -1; what <= 14; what++) {
            due("account " + what, x.account(what), m.account(what));
        }
        due("reason", x.reason(false), m.reason);
        due("detail", x.reason(true), m.detail);
        due("isBalanced", x.isBalanced(), 1);
        due("meanDuty", x.meanDuty(), m.meanDuty());
        due("backShare", x.backShare(), m.state.paid() == 0 ? 0.0f : (float) m.state.back() / (float) m.state.paid());
    }

    private static void compareGood(SilkTariff x, Model m, int good) {
        for (int what = 0; what <= 10; what++) {
            due("goodOf " + good + " " + what, x.goodOf(good, what), m.goodOf(good, what));
        }
        for (int country = 0; country < 5; country++) {
            due("would", x.would(good, country), m.state.duty(m.goodAt(good), country));
            due("points", x.points(good, country), m.goodAt(good).points(country));
        }
        due("why", x.why(good), m.why(good));
        due("fitAgain", x.fitAgain(good), m.fit(good, 0));
        due("ranked", x.ranked(good), m.ranked(good));
        due("cheapest", x.cheapest(good), m.cheapest(good));
        for (int at = 0; at <= 11; at++) {
            due("fit", x.fit(good, at), m.fit(good, at));
        }
    }

    // Numbers of every size in every call, far past the 512th: nothing may throw.
    private static void robustness() {
        int[] edges = {Integer.MIN_VALUE, -1000, -15, -1, 0, 1, 2, 3, 4, 5, 9, 10, 11, 12, 50, 60, 98, 99, 100, 127, 999, Integer.MAX_VALUE};
        SilkTariff x = new SilkTariff();
        for (int call = 0; call < 300000; call++) {
            int[] a = new int[6];
            for (int i = 0; i < 6; i++) {
                a[i] = edges[random.nextInt(edges.length)];
            }
            switch (call % 30) {
                case 0: x.heading(a[0], a[1], a[2], a[3], a[4]); break;
                case 1: x.strike(a[0]); break;
                case 2: x.headingOf(a[0], a[1]); break;
                case 3: x.code(a[0]); break;
                case 4: x.good(a[0], a[1], a[2], a[3], a[4], a[5]); break;
                case 5: x.work(a[0], a[1], a[2]); break;
                case 6: x.goodOf(a[0], a[1]); break;
                case 7: x.part(a[0], a[1]); break;
                case 8: x.points(a[0], a[1]); break;
                case 9: x.fit(a[0], a[1]); break;
                case 10: x.fitAgain(a[0]); break;
                case 11: x.why(a[0]); break;
                case 12: x.favour(a[0], a[1]); break;
                case 13: x.coins(random.nextInt(12000)); break;
                case 14: x.enter(a[0]); break;
                case 15: x.export(a[0]); break;
                case 16: x.days(random.nextInt(101)); break;
                case 17: x.would(a[0], a[1]); break;
                case 18: x.cheapest(a[0]); break;
                case 19: x.ranked(a[0]); break;
                case 20: x.append(random.nextInt(130)); break;
                case 21: x.tell(a[0]); break;
                case 22: x.tellHeading(a[0]); break;
                case 23: x.character(a[0]); break;
                case 24: x.account(a[0]); break;
                case 25: x.isBalanced(); x.meanDuty(); x.backShare(); break;
                case 26: if (a[0] > 60) { x.undo(); } break;
                case 27: x.save(); break;
                case 28: if (a[0] > 900) { x.restore(); } break;
                default: if (a[0] < 0) { x.run(); } break;
            }
        }
    }

    public static void main(String[] args) {
        int most = 0;
        for (int run = 0; run < RUNS; run++) {
            random = new Random(run);
            isOfTexts = run % 3 == 0;
            calls = 0;
            SilkTariff x = new SilkTariff();
            Model m = new Model();
            for (int step = 0; calls <= CALLS - STEP_CALLS; step++) {
                place = "run " + run + ", step " + step;
                oneCall(x, m);
                if (step % 32 == 0) {
                    compareAll(x, m);
                }
            }
            compareAll(x, m);
            if (!m.state.goods.isEmpty()) {
                compareGood(x, m, random.nextInt(m.state.goods.size()));
            }
            most = Math.max(most, calls);
        }
        if (most > CALLS) {
            wrong++;
            System.out.println("a run had " + most + " calls");
        }
        robustness();
        System.out.println(wrong == 0 ? "the class and the model agree" : wrong + " answers are not alike");
        if (wrong != 0) {
            System.exit(1);
        }
    }
}
