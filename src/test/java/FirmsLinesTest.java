/** Promises 1 to 3: a new object, deposits, limits; and 15, 16: day and phase. */
public final class FirmsLinesTest {
    private static final Checks CHECKS = new Checks();

    public static void main(String[] args) {
        newObject();
        deposits();
        mostDeposits();
        failedDeposits();
        limits();
        daysAndPhases();
        CHECKS.end();
    }

    private static void newObject() {
        GridMarket x = new GridMarket();
        CHECKS.due("day of a new object", x.day(), 0);
        CHECKS.due("phase of a new object", x.phase(), GridMarket.BIDS);
        CHECKS.due("house of a new object", x.house(), 0);
        for (int firm = 0; firm < 6; firm++) {
            CHECKS.due("account of firm " + firm, x.account(firm), 0);
            CHECKS.due("hasFailed of firm " + firm, x.hasFailed(firm), false);
            for (int zone = 0; zone < 3; zone++) {
                for (int hour = 0; hour < 4; hour++) {
                    CHECKS.due("plan of a new object", x.plan(0, firm, zone, hour), 0);
                }
            }
        }
        for (int line = 0; line < 3; line++) {
            CHECKS.due("first limit of line " + line, x.setLimit(line, 5), 5);
        }
        GridMarket y = new GridMarket();
        y.deposit(0, 5);
        y.setLimit(0, 7);
        y.clear();
        CHECKS.due("another object's account", x.account(0), 0);
        CHECKS.due("another object's phase", x.phase(), GridMarket.BIDS);
        CHECKS.due("another object's limit", x.setLimit(0, 5), 5);
    }

    private static void deposits() {
        GridMarket x = new GridMarket();
        CHECKS.due("deposit(0, 1)", x.deposit(0, 1), 1);
        CHECKS.due("deposit(0, 100000)", x.deposit(0, 100000), 100001);
        CHECKS.due("deposit(5, 7)", x.deposit(5, 7), 7);
        CHECKS.due("account(0)", x.account(0), 100001);
        CHECKS.due("account(5)", x.account(5), 7);
        CHECKS.due("house has nothing of a deposit", x.house(), 0);
        for (int firm : new int[] {-1, 6, Integer.MIN_VALUE, Integer.MAX_VALUE}) {
            CHECKS.dueThrow("deposit of firm " + firm, Checks.INDEX, () -> x.deposit(firm, 1));
            CHECKS.dueThrow("deposit of firm and amount out of range", Checks.INDEX, () -> x.deposit(firm, 0));
            CHECKS.dueThrow("account of firm " + firm, Checks.INDEX, () -> x.account(firm));
            CHECKS.dueThrow("hasFailed of firm " + firm, Checks.INDEX, () -> x.hasFailed(firm));
        }
        for (int amount : new int[] {0, -1, 100001, Integer.MIN_VALUE, Integer.MAX_VALUE}) {
            CHECKS.dueThrow("deposit of " + amount, Checks.ARGUMENT, () -> x.deposit(0, amount));
        }
        CHECKS.due("account(0) behind wrong calls", x.account(0), 100001);
        x.clear();
        CHECKS.due("deposit while open for offers", x.deposit(5, 3), 10);
        x.close();
        CHECKS.due("deposit on the next day", x.deposit(5, 3), 13);
    }

    private static void mostDeposits() {
        GridMarket x = new GridMarket();
        for (int call = 1; call < 100; call++) {
            x.deposit(2, 100000);
        }
        CHECKS.due("deposit up to one less", x.deposit(2, 99999), 9999999);
        CHECKS.dueThrow("deposit beyond the most", Checks.STATE, () -> x.deposit(2, 2));
        CHECKS.due("deposit up to the most", x.deposit(2, 1), 10000000);
        CHECKS.dueThrow("one more than the most", Checks.STATE, () -> x.deposit(2, 1));
        CHECKS.dueThrow("wrong amount beyond the most", Checks.ARGUMENT, () -> x.deposit(2, 0));
        CHECKS.due("another firm's deposit", x.deposit(3, 1), 1);
        // What counts is what was deposited, not what the account is.
        x.bid(2, 0, 0, true, 100, 10);
        x.bid(3, 0, 0, false, 50, 10);
        x.clear();
        x.close();
        x.run(0);
        CHECKS.due("account below the deposits", x.account(2), 10000000 - 1000 + 500);
        CHECKS.dueThrow("deposit though the account is lower", Checks.STATE, () -> x.deposit(2, 1));
    }

    private static void failedDeposits() {
        GridMarket x = new GridMarket();
        x.bid(0, 0, 0, true, 100, 1);
        x.bid(1, 0, 0, false, 50, 1);
        x.clear();
        x.close();
        CHECKS.due("run(0)", x.run(0), 1);
        CHECKS.due("hasFailed(0)", x.hasFailed(0), true);
        CHECKS.due("hasFailed(1)", x.hasFailed(1), false);
        CHECKS.dueThrow("deposit of a failed firm", Checks.STATE, () -> x.deposit(0, 1));
        CHECKS.dueThrow("wrong deposit of a failed firm", Checks.ARGUMENT, () -> x.deposit(0, 0));
    }

    private static void limits() {
        GridMarket x = new GridMarket();
        CHECKS.due("setLimit(0, 0)", x.setLimit(0, 0), 5);
        CHECKS.due("setLimit(0, 10)", x.setLimit(0, 10), 0);
        CHECKS.due("setLimit(0, 3)", x.setLimit(0, 3), 10);
        CHECKS.due("setLimit(2, 4)", x.setLimit(2, 4), 5);
        CHECKS.due("setLimit(1, 6)", x.setLimit(1, 6), 5);
        for (int line : new int[] {-1, 3, Integer.MIN_VALUE, Integer.MAX_VALUE}) {
            CHECKS.dueThrow("setLimit of line " + line, Checks.INDEX, () -> x.setLimit(line, 1));
            CHECKS.dueThrow("setLimit of line and limit out of range", Checks.INDEX, () -> x.setLimit(line, 11));
        }
        for (int limit : new int[] {-1, 11, Integer.MIN_VALUE, Integer.MAX_VALUE}) {
            CHECKS.dueThrow("setLimit to " + limit, Checks.ARGUMENT, () -> x.setLimit(0, limit));
        }
        x.clear();
        CHECKS.dueThrow("setLimit behind clearing", Checks.STATE, () -> x.setLimit(0, 1));
        CHECKS.dueThrow("wrong setLimit behind clearing", Checks.ARGUMENT, () -> x.setLimit(0, 11));
        CHECKS.dueThrow("no line behind clearing", Checks.INDEX, () -> x.setLimit(3, 1));
        x.close();
        CHECKS.due("a limit stays over days", x.setLimit(0, 1), 3);
        CHECKS.due("another limit stays over days", x.setLimit(1, 1), 6);
        CHECKS.due("the third limit stays over days", x.setLimit(2, 1), 4);
    }

    private static void daysAndPhases() {
        GridMarket x = new GridMarket();
        for (int day = 0; day < 10; day++) {
            CHECKS.due("day", x.day(), day);
            CHECKS.due("phase ahead of clearing", x.phase(), GridMarket.BIDS);
            CHECKS.dueThrow("close while open for bids", Checks.STATE, x::close);
            CHECKS.due("clear with nothing", x.clear(), 0);
            CHECKS.due("phase behind clearing", x.phase(), GridMarket.OFFERS);
            CHECKS.dueThrow("clear while open for offers", Checks.STATE, x::clear);
            CHECKS.due("day behind clearing", x.day(), day);
            if (day < 9) {
                CHECKS.due("close", x.close(), day + 1);
            }
        }
        CHECKS.dueThrow("close of day 9", Checks.STATE, x::close);
        CHECKS.due("the last day", x.day(), 9);
        CHECKS.due("the last phase", x.phase(), GridMarket.OFFERS);
        CHECKS.due("an offer on day 9", x.offer(0, 0, 0, true, 5, 1), 0);
        CHECKS.dueThrow("read of day 9", Checks.INDEX, () -> x.read(9, 0, 0, 0, 0));
        CHECKS.due("read of day 8", x.read(8, 0, 0, 0, 2), 2);
    }
}
