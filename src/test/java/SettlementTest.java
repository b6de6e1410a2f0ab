/** Promises 13, 14 and 26 to 33: readings, runs, and what is asked of days and firms. */
public final class SettlementTest {
    private static final Checks CHECKS = new Checks();
    private static final int[] FAR = {Integer.MIN_VALUE, Integer.MAX_VALUE};

    public static void main(String[] args) {
        wrongReadings();
        readings();
        plans();
        tooLittle();
        tooMuch();
        zonePricesBound();
        gapsThatMeet();
        ownAids();
        runs();
        wrongRuns();
        sharedLoss();
        failingInARow();
        oneGivesAll();
        nothingDeposited();
        billsOfTheFailed();
        whatTheFailedLeft();
        wrongQuestions();
        CHECKS.end();
    }

    /** Day 0 is closed; firm 0 sold 5 units to firm 1 in zone 0 and hour 0, at 10. */
    private static GridMarket closed() {
        GridMarket x = new GridMarket();
        x.bid(0, 0, 0, false, 10, 9);
        x.bid(1, 0, 0, true, 30, 5);
        return x;
    }

    private static void end(GridMarket x) {
        x.clear();
        x.close();
    }

    private static void wrongReadings() {
        GridMarket x = closed();
        CHECKS.dueThrow("read of the open day", Checks.INDEX, () -> x.read(0, 0, 0, 0, 0));
        x.clear();
        CHECKS.dueThrow("read of the cleared day", Checks.INDEX, () -> x.read(0, 0, 0, 0, 0));
        x.close();
        for (int no : new int[] {-1, 1, 2, 9, 10, FAR[0], FAR[1]}) {
            CHECKS.dueThrow("read of day " + no, Checks.INDEX, () -> x.read(no, 0, 0, 0, 0));
            CHECKS.dueThrow("read of day " + no + " and too much", Checks.INDEX, () -> x.read(no, 0, 0, 0, 201));
        }
        for (int no : new int[] {-1, 6, FAR[0], FAR[1]}) {
            CHECKS.dueThrow("read of firm " + no, Checks.INDEX, () -> x.read(0, no, 0, 0, 0));
        }
        for (int no : new int[] {-1, 3, FAR[0], FAR[1]}) {
            CHECKS.dueThrow("read of zone " + no, Checks.INDEX, () -> x.read(0, 0, no, 0, 0));
        }
        for (int no : new int[] {-1, 4, FAR[0], FAR[1]}) {
            CHECKS.dueThrow("read of hour " + no, Checks.INDEX, () -> x.read(0, 0, 0, no, 0));
            CHECKS.dueThrow("read of hour " + no + " and too much", Checks.INDEX, () -> x.read(0, 0, 0, no, -201));
        }
        for (int no : new int[] {-201, 201, FAR[0], FAR[1]}) {
            CHECKS.dueThrow("read of " + no, Checks.ARGUMENT, () -> x.read(0, 0, 0, 0, no));
        }
        CHECKS.due("gap behind wrong readings", x.gap(0, 0), 0);
    }

    private static void readings() {
        GridMarket x = closed();
        end(x);
        CHECKS.due("without a reading", x.gap(0, 0), 0);
        CHECKS.due("gapPrice of no gap", x.gapPrice(0, 0), GridMarket.NONE);
        CHECKS.due("read(5)", x.read(0, 0, 0, 0, 5), 0);
        CHECKS.due("read(200)", x.read(0, 0, 0, 0, 200), 195);
        CHECKS.due("gap", x.gap(0, 0), 195);
        CHECKS.due("read(-200)", x.read(0, 0, 0, 0, -200), -205);
        CHECKS.due("gap by the later reading", x.gap(0, 0), -205);
        CHECKS.due("read of who buys", x.read(0, 1, 0, 0, 0), 5);
        CHECKS.due("gap of both", x.gap(0, 0), -200);
        CHECKS.due("read in another zone", x.read(0, 1, 2, 0, 3), 3);
        CHECKS.due("gap of all zones", x.gap(0, 0), -197);
        CHECKS.due("gap of another hour", x.gap(0, 1), 0);
        CHECKS.due("read in another hour", x.read(0, 5, 1, 3, -2), -2);
        CHECKS.due("gap of hour 3", x.gap(0, 3), -2);
        CHECKS.due("plan stays", x.plan(0, 0, 0, 0), 5);
        end(x);
        CHECKS.due("gap of the next day", x.gap(1, 0), 0);
        CHECKS.due("read of the next day", x.read(1, 0, 0, 0, -1), -1);
        CHECKS.due("gap of day 0", x.gap(0, 0), -197);
    }

    private static void plans() {
        GridMarket x = new GridMarket();
        x.bid(0, 1, 2, false, 10, 9);
        x.bid(0, 1, 2, true, 30, 2);
        x.block(0, 1, 4, true, 20, 3);
        CHECKS.due("plan ahead of clearing", x.plan(0, 0, 1, 2), 0);
        x.clear();
        CHECKS.due("taken to sell", x.taken(0), 5);
        CHECKS.due("what is sold less what is bought", x.plan(0, 0, 1, 2), 0);
        x.offer(0, 1, 2, false, 1, 4);
        x.offer(1, 1, 2, true, 1, 3);
        CHECKS.due("plan with offers", x.plan(0, 0, 1, 2), 3);
        CHECKS.due("plan of the other one", x.plan(0, 1, 1, 2), -3);
        x.close();
        CHECKS.due("plan of the closed day", x.plan(0, 0, 1, 2), 3);
        CHECKS.due("bill of trade with itself and offers", x.bill(0, 0), 3);
    }

    private static void tooLittle() {
        GridMarket x = closed();
        x.aid(2, 0, true, 50, 3);
        x.aid(3, 0, true, 40, 2);
        x.aid(4, 0, true, 50, 3);
        x.aid(5, 0, false, 5, 9);
        x.aid(5, 1, true, 1, 9);
        end(x);
        x.read(0, 0, 0, 0, 3);
        CHECKS.due("price of two units", x.gapPrice(0, 0), 40);
        CHECKS.due("bill of who gave less", x.bill(0, 0), 50 - 80);
        CHECKS.due("bill of who helped", x.bill(0, 3), 80);
        CHECKS.due("bill of who was not used", x.bill(0, 2), 0);
        x.read(0, 0, 0, 0, -1);
        CHECKS.due("price of six units", x.gapPrice(0, 0), 50);
        CHECKS.due("the earlier one of a price", x.bill(0, 2), 150);
        CHECKS.due("the later one of a price, in part", x.bill(0, 4), 50);
        CHECKS.due("the cheaper one gets the same price", x.bill(0, 3), 100);
        x.read(0, 0, 0, 0, -3);
        CHECKS.due("price of eight units: they just suffice", x.gapPrice(0, 0), 50);
        x.read(0, 0, 0, 0, -4);
        CHECKS.due("price of nine units: they do not", x.gapPrice(0, 0), 300);
        CHECKS.due("bill of who gave less", x.bill(0, 0), 50 - 2700);
        CHECKS.due("all that can be used get it", x.bill(0, 4), 900);
        CHECKS.due("aids that give less are not used", x.bill(0, 5), 0);
        x.read(0, 1, 0, 0, -3);
        CHECKS.due("one above 0 gets the price of its zone", x.bill(0, 1), -50 + 2 * 10);
        CHECKS.due("gap then", x.gap(0, 0), -7);
    }

    private static void tooMuch() {
        GridMarket x = closed();
        x.aid(2, 0, false, 5, 3);
        x.aid(3, 0, false, 8, 2);
        x.aid(4, 0, false, 5, 3);
        x.aid(5, 0, true, 7, 9);
        x.aid(5, 2, false, 9, 9);
        end(x);
        x.read(0, 0, 0, 0, 7);
        CHECKS.due("price of two units", x.gapPrice(0, 0), 8);
        CHECKS.due("bill of who gave more", x.bill(0, 0), 50 + 16);
        CHECKS.due("bill of who helped", x.bill(0, 3), -16);
        x.read(0, 0, 0, 0, 11);
        CHECKS.due("price of six units", x.gapPrice(0, 0), 5);
        CHECKS.due("the earlier one of a price", x.bill(0, 2), -15);
        CHECKS.due("the later one of a price, in part", x.bill(0, 4), -5);
        CHECKS.due("the dearer one pays the same price", x.bill(0, 3), -10);
        x.read(0, 0, 0, 0, 13);
        CHECKS.due("price of eight units: they just suffice", x.gapPrice(0, 0), 5);
        x.read(0, 0, 0, 0, 14);
        CHECKS.due("price of nine units: they do not", x.gapPrice(0, 0), 0);
        CHECKS.due("bill of who gave more", x.bill(0, 0), 50);
        CHECKS.due("bill of who helped for nothing", x.bill(0, 2), 0);
        x.read(0, 1, 0, 0, -7);
        CHECKS.due("one below 0 pays the price of its zone", x.bill(0, 1), -50 - 2 * 10);
        CHECKS.due("aids that give more are not used", x.bill(0, 5), 0);
    }

    private static void zonePricesBound() {
        GridMarket x = new GridMarket();
        x.setLimit(0, 0);
        x.setLimit(1, 0);
        x.setLimit(2, 0);
        for (int zone = 0; zone < 3; zone++) {
            x.bid(0, zone, 0, false, 20 + 10 * zone, 10);
            x.bid(1, zone, 0, true, 100, 5);
        }
        x.aid(2, 0, true, 15, 5);
        x.aid(3, 0, false, 25, 5);
        end(x);
        x.read(0, 4, 0, 0, -2);
        CHECKS.due("at least the greatest price of a zone", x.gapPrice(0, 0), 40);
        CHECKS.due("who gave less pays it", x.bill(0, 4), -80);
        CHECKS.due("who helped gets it", x.bill(0, 2), 80);
        x.read(0, 4, 0, 0, 2);
        CHECKS.due("at most the least price of a zone", x.gapPrice(0, 0), 20);
        CHECKS.due("who gave more gets it", x.bill(0, 4), 40);
        CHECKS.due("who helped pays it", x.bill(0, 3), -40);
        x.read(0, 4, 2, 0, -1);
        CHECKS.due("one below 0 pays the price of its own zone", x.bill(0, 4), 2 * 20 - 40);
        dearZone();
    }

    /** The price of a zone, 380, is more than 300: it bounds that price too. */
    private static void dearZone() {
        GridMarket x = new GridMarket();
        x.setLimit(2, 0);
        x.bid(0, 0, 0, false, 20, 1);
        x.bid(0, 1, 0, true, 200, 10);
        x.aid(2, 0, true, 15, 1);
        x.clear();
        CHECKS.due("price of zone 2", x.price(2, 0), 380);
        x.close();
        x.read(0, 4, 0, 0, -1);
        CHECKS.due("aids suffice", x.gapPrice(0, 0), 380);
        x.read(0, 4, 0, 0, -2);
        CHECKS.due("aids do not suffice", x.gapPrice(0, 0), 380);
        x.read(0, 4, 0, 0, 1);
        CHECKS.due("no aids that give less, least price 0", x.gapPrice(0, 0), 0);
    }

    private static void gapsThatMeet() {
        GridMarket x = closed();
        x.aid(2, 0, true, 50, 3);
        end(x);
        x.read(0, 0, 0, 0, 3);
        x.read(0, 1, 0, 0, -3);
        CHECKS.due("gap of 0", x.gap(0, 0), 0);
        CHECKS.due("gapPrice of it", x.gapPrice(0, 0), GridMarket.NONE);
        CHECKS.due("one below 0 pays the price of its zone", x.bill(0, 0), 50 - 20);
        CHECKS.due("one above 0 gets it", x.bill(0, 1), -50 + 20);
        CHECKS.due("no aid is used", x.bill(0, 2), 0);
    }

    private static void ownAids() {
        GridMarket x = closed();
        x.aid(0, 0, true, 40, 1);
        x.aid(2, 0, true, 60, 3);
        end(x);
        x.read(0, 0, 0, 0, 3);
        CHECKS.due("a firm may help itself", x.bill(0, 0), 50 - 120 + 60);
        CHECKS.due("bill of the other one", x.bill(0, 2), 60);
    }

    private static void runs() {
        GridMarket x = closed();
        x.deposit(0, 1000);
        x.deposit(1, 1000);
        end(x);
        CHECKS.due("settled ahead of runs", x.settled(0, 0), 0);
        CHECKS.due("run 1", x.run(0), 0);
        CHECKS.due("account of who sold", x.account(0), 1050);
        CHECKS.due("account of who bought", x.account(1), 950);
        CHECKS.due("house", x.house(), 0);
        x.read(0, 0, 0, 0, 4);
        CHECKS.due("a reading pays nothing yet", x.account(0), 1050);
        CHECKS.due("but the bill", x.bill(0, 0), 50 - 300);
        CHECKS.due("settled by run 1", x.settled(0, 0), 50);
        CHECKS.due("run 2", x.run(0), 0);
        CHECKS.due("account behind run 2", x.account(0), 750);
        CHECKS.due("house behind run 2", x.house(), 300);
        CHECKS.due("settled by run 2", x.settled(0, 0), -250);
        x.read(0, 0, 0, 0, 5);
        CHECKS.due("run 3", x.run(0), 0);
        CHECKS.due("account behind run 3", x.account(0), 1050);
        CHECKS.due("house behind run 3", x.house(), 0);
        CHECKS.dueThrow("run 4", Checks.STATE, () -> x.run(0));
        x.read(0, 0, 0, 0, 9);
        CHECKS.due("bill behind all runs", x.bill(0, 0), 50);
        x.read(0, 0, 0, 0, 3);
        CHECKS.due("bill with a later reading", x.bill(0, 0), 50 - 600);
        CHECKS.due("settled stays", x.settled(0, 0), 50);
        end(x);
        CHECKS.due("run of the next day", x.run(1), 0);
        CHECKS.due("settled of the next day", x.settled(1, 0), 0);
    }

    private static void wrongRuns() {
        GridMarket x = closed();
        CHECKS.dueThrow("run of the open day", Checks.INDEX, () -> x.run(0));
        x.clear();
        CHECKS.dueThrow("run of the cleared day", Checks.INDEX, () -> x.run(0));
        x.close();
        for (int no : new int[] {-1, 1, 2, 9, 10, FAR[0], FAR[1]}) {
            CHECKS.dueThrow("run of day " + no, Checks.INDEX, () -> x.run(no));
        }
    }

    private static void sharedLoss() {
        GridMarket x = new GridMarket();
        x.deposit(1, 100);
        x.deposit(2, 200);
        x.deposit(3, 400);
        x.bid(0, 0, 0, true, 101, 1);
        x.bid(5, 0, 0, false, 100, 1);
        x.bid(5, 0, 0, false, 101, 1);
        CHECKS.due("clear", x.clear(), 1);
        CHECKS.due("price", x.price(0, 0), 100);
        x.close();
        CHECKS.due("run", x.run(0), 1);
        CHECKS.due("the one that failed", x.hasFailed(0), true);
        CHECKS.due("its account", x.account(0), 0);
        CHECKS.due("100 * 100 / 700", x.account(1), 100 - 14);
        CHECKS.due("100 * 200 / 700", x.account(2), 200 - 28);
        CHECKS.due("100 * 400 / 700", x.account(3), 400 - 57);
        CHECKS.due("one without deposits", x.account(4), 0);
        CHECKS.due("who sold", x.account(5), 100);
        CHECKS.due("the house gives what is left", x.house(), -1);
        CHECKS.due("settled of who failed", x.settled(0, 0), -100);
    }

    /** A loss that is shared lets an earlier firm fail too; then the lowest number comes first. */
    private static void failingInARow() {
        GridMarket x = new GridMarket();
        x.deposit(0, 10);
        x.deposit(2, 100);
        x.deposit(4, 10);
        x.bid(0, 0, 0, true, 10, 1);
        x.bid(3, 0, 0, true, 10, 10);
        x.bid(5, 0, 0, false, 10, 10);
        x.bid(5, 0, 0, false, 10, 1);
        x.bid(5, 0, 0, false, 9, 1);
        x.clear();
        CHECKS.due("taken of firm 0", x.taken(0), 1);
        CHECKS.due("taken of firm 3", x.taken(1), 0);
        x.close();
        x.read(0, 3, 0, 0, -1);
        CHECKS.due("gap", x.gap(0, 0), -1);
        CHECKS.due("price of the gap", x.gapPrice(0, 0), 300);
        CHECKS.due("bill of firm 0", x.bill(0, 0), -10);
        CHECKS.due("bill of firm 3", x.bill(0, 3), -300);
        // Firm 3 fails: firms 0, 2, 4 give 25, 250, 25. Firm 0 fails by 25: 2 gives 22, 4 gives 2.
        // Firm 2 fails by 172: 4 gives all. Firm 4 fails by 189: the house gives that.
        CHECKS.due("run", x.run(0), 4);
        CHECKS.due("firm 1", x.hasFailed(1), false);
        CHECKS.due("firm 5", x.hasFailed(5), false);
        CHECKS.due("account of firm 5", x.account(5), 10);
        CHECKS.due("account of firm 2", x.account(2), 0);
        CHECKS.due("house", x.house(), 300 - 1 - 189);
    }

    private static void oneGivesAll() {
        GridMarket x = new GridMarket();
        x.deposit(0, 700);
        x.bid(5, 0, 0, true, 100, 1);
        x.bid(1, 0, 0, false, 100, 2);
        x.bid(5, 0, 0, true, 101, 1);
        end(x);
        CHECKS.due("run", x.run(0), 1);
        CHECKS.due("who failed", x.hasFailed(5), true);
        CHECKS.due("the only one with deposits", x.account(0), 600);
        CHECKS.due("the house gives nothing", x.house(), 0);
    }

    private static void nothingDeposited() {
        GridMarket x = new GridMarket();
        x.deposit(0, 5);
        x.bid(0, 0, 0, true, 100, 1);
        x.bid(1, 0, 0, false, 50, 1);
        end(x);
        CHECKS.due("run", x.run(0), 1);
        CHECKS.due("who failed", x.account(0), 0);
        CHECKS.due("who sold keeps all", x.account(1), 50);
        CHECKS.due("the house gives all", x.house(), -45);
    }

    private static void billsOfTheFailed() {
        GridMarket x = new GridMarket();
        x.bid(0, 0, 0, true, 100, 1);
        x.bid(1, 0, 0, false, 50, 1);
        end(x);
        x.bid(0, 0, 0, true, 70, 1);
        x.bid(1, 0, 0, false, 50, 1);
        x.bid(0, 1, 0, false, 20, 2);
        end(x);
        CHECKS.due("bill of day 1: sold one unit to itself", x.bill(1, 0), 0);
        CHECKS.due("run(0)", x.run(0), 1);
        CHECKS.due("house behind run(0)", x.house(), -50);
        x.read(0, 0, 0, 0, -2);
        CHECKS.due("bill of the failed", x.bill(0, 0), -50 - 300);
        CHECKS.due("run(0) again", x.run(0), 0);
        CHECKS.due("account of the failed", x.account(0), 0);
        CHECKS.due("settled of the failed", x.settled(0, 0), -50);
        CHECKS.due("its bill is the house's on both sides", x.house(), -50);
        x.read(1, 0, 1, 0, 3);
        x.read(1, 1, 2, 0, -1);
        int billOfSeller = x.bill(1, 1);
        int house = x.house();
        CHECKS.due("run(1)", x.run(1), 0);
        CHECKS.due("the other firm is settled", x.account(1), 50 + billOfSeller);
        CHECKS.due("the house pays it", x.house(), house - billOfSeller);
        CHECKS.due("settled of a day behind its failing", x.settled(1, 0), 0);
    }

    /** What a firm told ahead of its failing stays. */
    private static void whatTheFailedLeft() {
        GridMarket x = new GridMarket();
        x.bid(0, 0, 0, true, 100, 1);
        x.bid(1, 0, 0, false, 50, 1);
        end(x);
        x.bid(0, 0, 0, false, 10, 1);
        x.bid(1, 0, 0, true, 50, 1);
        x.aid(0, 0, true, 60, 1);
        CHECKS.due("run", x.run(0), 1);
        CHECKS.due("clear with bids of the failed", x.clear(), 40);
        CHECKS.due("its bid is taken", x.taken(0), 1);
        x.close();
        x.read(1, 1, 0, 0, -2);
        CHECKS.due("its aid is used", x.gapPrice(1, 0), 60);
        CHECKS.due("its bill", x.bill(1, 0), 10 + 60);
        GridMarket y = new GridMarket();
        y.bid(0, 0, 0, true, 100, 1);
        y.bid(1, 0, 0, false, 50, 1);
        end(y);
        y.clear();
        y.offer(0, 0, 0, false, 20, 2);
        CHECKS.due("run", y.run(0), 1);
        y.offer(2, 0, 0, true, 20, 1);
        CHECKS.due("its offer still rests", y.left(0), 1);
        CHECKS.due("and may be taken back", y.takeBack(0), 1);
    }

    private static void wrongQuestions() {
        GridMarket x = closed();
        end(x);
        for (int no : new int[] {-1, 1, 2, 10, FAR[0], FAR[1]}) {
            CHECKS.dueThrow("gap of day " + no, Checks.INDEX, () -> x.gap(no, 0));
            CHECKS.dueThrow("gapPrice of day " + no, Checks.INDEX, () -> x.gapPrice(no, 0));
            CHECKS.dueThrow("bill of day " + no, Checks.INDEX, () -> x.bill(no, 0));
            CHECKS.dueThrow("settled of day " + no, Checks.INDEX, () -> x.settled(no, 0));
        }
        for (int no : new int[] {-1, 2, 10, FAR[0], FAR[1]}) {
            CHECKS.dueThrow("plan of day " + no, Checks.INDEX, () -> x.plan(no, 0, 0, 0));
        }
        for (int no : new int[] {-1, 4, FAR[0], FAR[1]}) {
            CHECKS.dueThrow("gap of hour " + no, Checks.INDEX, () -> x.gap(0, no));
            CHECKS.dueThrow("gapPrice of hour " + no, Checks.INDEX, () -> x.gapPrice(0, no));
            CHECKS.dueThrow("plan of hour " + no, Checks.INDEX, () -> x.plan(0, 0, 0, no));
        }
        for (int no : new int[] {-1, 6, FAR[0], FAR[1]}) {
            CHECKS.dueThrow("bill of firm " + no, Checks.INDEX, () -> x.bill(0, no));
            CHECKS.dueThrow("settled of firm " + no, Checks.INDEX, () -> x.settled(0, no));
            CHECKS.dueThrow("plan of firm " + no, Checks.INDEX, () -> x.plan(0, no, 0, 0));
        }
        for (int no : new int[] {-1, 3, FAR[0], FAR[1]}) {
            CHECKS.dueThrow("plan of zone " + no, Checks.INDEX, () -> x.plan(0, 0, no, 0));
        }
        CHECKS.due("plan of today", x.plan(1, 5, 2, 3), 0);
    }
}
