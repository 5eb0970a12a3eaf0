import java.lang.reflect.Field;
import java.lang.reflect.Method;

// No call can bring a house out of balance, so this test reaches into it: with one account changed by one coin,
// or with a good that has two headings by the two ways, isBalanced must answer 0.
public final class BalanceTest extends Checks {
    private static Object inside(Object of, String name) throws Exception {
        Field field = of.getClass().getDeclaredField(name);
        field.setAccessible(true);
        return field.get(of);
    }

    private static void add(SilkTariff x, String account, int coins) throws Exception {
        Object house = inside(x, "house");
        Field field = house.getClass().getDeclaredField(account);
        field.setAccessible(true);
        field.setInt(house, field.getInt(house) + coins);
    }

    private static void setHeading(SilkTariff x, int row, int[] numbers) throws Exception {
        Object headings = inside(inside(x, "house"), "headings");
        Method set = headings.getClass().getDeclaredMethod("set", int.class, int.class, int.class);
        set.setAccessible(true);
        for (int column = 0; column < numbers.length; column++) {
            set.invoke(headings, row, column, numbers[column]);
        }
    }

    private static SilkTariff house() {
        SilkTariff x = new SilkTariff();
        x.heading(10, 4, 1, 30, 0);
        x.heading(20, 4, 2, 30, 0);
        x.coins(100);
        for (int good = 0; good < 4; good++) {
            x.good(good % 3, 1, 50, 0, 0, 0);
            x.work(good, good, 1);
            x.enter(good);
        }
        x.export(1);
        x.days(31);
        x.export(2);
        return x;
    }

    private static void balanced() {
        says("Promise 29", "Returns 1 if it is so, 0 otherwise.");
        due(new SilkTariff().isBalanced(), 1);
        SilkTariff x = house();
        due(x.isBalanced(), 1);
        for (int left = 7; left >= 0; left--) {
            due(x.undo(), left);
            due(x.isBalanced(), 1);
        }
        x = house();
        due(x.account(6), 100 - 60 + 13);
        x.save();
        x.export(0);
        due(x.isBalanced(), 1);
        x.restore();
        due(x.isBalanced(), 1);
        due(run(x, "export 0;export 0"), REFUSED);
        due(x.isBalanced(), 1);
        x.strike(10);
        due(x.isBalanced(), 1);
    }

    private static void coinsAstray() throws Exception {
        says("Promise 29", "Returns whether the coins of the merchant are those given and drawn back, less the duties paid, the duties and what "
            + "was drawn back are those of all goods, and each good has the same heading by both ways.");
        // accounts that are one coin off, alone or two of them such that the first sum is right
        String[][] astray = {{"purse"}, {"given"}, {"paid"}, {"drawnBack"}, {"purse", "drawnBack"}, {"given", "paid"}, {"paid", "drawnBack"}};
        for (String[] accounts : astray) {
            for (int coins = -1; coins <= 1; coins += 2) {
                SilkTariff x = house();
                for (String account : accounts) {
                    add(x, account, coins);
                }
                due(x.isBalanced(), 0);
                for (String account : accounts) {
                    add(x, account, -coins);
                }
                due(x.isBalanced(), 1);
            }
        }
        SilkTariff all = house();
        add(all, "purse", 1);
        add(all, "given", 1);
        due(all.isBalanced(), 1);
        SilkTariff empty = new SilkTariff();
        add(empty, "purse", 1);
        due(empty.isBalanced(), 0);
    }

    private static void headingsAstray() throws Exception {
        // two headings with one code: the first way finds the first of them, the second way the last
        SilkTariff x = house();
        setHeading(x, 1, new int[] {4, 1, 30, 0, 10});
        due(x.isBalanced(), 0);
        setHeading(x, 1, new int[] {4, 2, 30, 0, 20});
        due(x.isBalanced(), 1);
        // only the first good, and only the last one
        SilkTariff first = new SilkTariff();
        first.heading(10, 4, 0, 0, 0);
        first.heading(20, 4, 3, 0, 0);
        first.good(0, 1, 1, 0, 0, 0);
        first.good(1, 1, 1, 0, 0, 0);
        setHeading(first, 1, new int[] {4, 0, 0, 0, 10});
        due(first.isBalanced(), 0);
        SilkTariff last = new SilkTariff();
        last.heading(10, 4, 0, 0, 0);
        last.heading(20, 4, 3, 0, 0);
        last.good(1, 1, 1, 0, 0, 0);
        last.good(0, 1, 1, 0, 0, 0);
        setHeading(last, 1, new int[] {4, 0, 0, 0, 10});
        due(last.isBalanced(), 0);
    }

    public static void main(String[] args) throws Exception {
        balanced();
        coinsAstray();
        headingsAstray();
        end();
    }
}
