/** Promises 9 to 12 and 25: offers, taking back, aids, closing, what is left; and plans by offers. */
public final class OffersTest {
    private static final Checks CHECKS = new Checks();
    private static final int[] FAR = {Integer.MIN_VALUE, Integer.MAX_VALUE};

    public static void main(String[] args) {
        wrongOffers();
        mostOffers();
        bestFirst();
        bestFirstForSellers();
        worseThanAsked();
        ownOffers();
        inEachHourAlone();
        limitsLetAPart();
        passedOverOnce();
        netsOfClearingCount();
        takeBack();
        aids();
        closing();
        CHECKS.end();
    }

    private static GridMarket cleared() {
        GridMarket x = new GridMarket();
        x.clear();
        return x;
    }

    private static void wrongOffers() {
        GridMarket x = new GridMarket();
        CHECKS.dueThrow("offer ahead of clearing", Checks.STATE, () -> x.offer(0, 0, 0, true, 1, 1));
        CHECKS.dueThrow("wrong offer ahead of clearing", Checks.ARGUMENT, () -> x.offer(0, 0, 0, true, 301, 1));
        CHECKS.dueThrow("offer of no firm ahead of clearing", Checks.INDEX, () -> x.offer(6, 0, 0, true, 1, 1));
        CHECKS.dueThrow("left ahead of clearing", Checks.INDEX, () -> x.left(0));
        CHECKS.dueThrow("takeBack ahead of clearing", Checks.INDEX, () -> x.takeBack(0));
        x.clear();
        for (int no : new int[] {-1, 6, FAR[0], FAR[1]}) {
            CHECKS.dueThrow("offer of firm " + no, Checks.INDEX, () -> x.offer(no, 0, 0, true, 1, 1));
            CHECKS.dueThrow("offer of firm " + no + " of nothing", Checks.INDEX, () -> x.offer(no, 0, 0, true, 1, 0));
        }
        for (int no : new int[] {-1, 3, FAR[0], FAR[1]}) {
            CHECKS.dueThrow("offer in zone " + no, Checks.INDEX, () -> x.offer(0, no, 0, true, 1, 1));
        }
        for (int no : new int[] {-1, 4, FAR[0], FAR[1]}) {
            CHECKS.dueThrow("offer in hour " + no, Checks.INDEX, () -> x.offer(0, 0, no, true, 1, 1));
        }
        for (int no : new int[] {-1, 301, FAR[0], FAR[1]}) {
            CHECKS.dueThrow("offer for " + no, Checks.ARGUMENT, () -> x.offer(0, 0, 0, true, no, 1));
        }
        for (int no : new int[] {0, -1, 11, FAR[0], FAR[1]}) {
            CHECKS.dueThrow("offer of units " + no, Checks.ARGUMENT, () -> x.offer(0, 0, 0, true, 1, no));
        }
        CHECKS.due("offer behind wrong ones", x.offer(0, 0, 0, true, 0, 10), 0);
        CHECKS.due("offer for the most", x.offer(0, 0, 0, false, 300, 1), 1);
        CHECKS.due("left of it", x.left(1), 1);
        for (int no : new int[] {-1, 2, FAR[0], FAR[1]}) {
            CHECKS.dueThrow("left of " + no, Checks.INDEX, () -> x.left(no));
            CHECKS.dueThrow("takeBack of " + no, Checks.INDEX, () -> x.takeBack(no));
        }
    }

    private static void mostOffers() {
        GridMarket x = cleared();
        for (int n = 0; n < 60; n++) {
            CHECKS.due("offer " + n, x.offer(n % 6, n % 3, n % 4, n % 2 == 0, 150, 1), n);
        }
        CHECKS.dueThrow("offer 60", Checks.STATE, () -> x.offer(0, 0, 0, true, 1, 1));
        CHECKS.dueThrow("offer 60, wrong", Checks.ARGUMENT, () -> x.offer(0, 0, 0, true, 1, 11));
        x.close();
        CHECKS.dueThrow("left of yesterday's offer", Checks.INDEX, () -> x.left(0));
        x.clear();
        CHECKS.due("first offer of the next day", x.offer(0, 0, 0, false, 0, 1), 0);
        CHECKS.due("it meets none of yesterday", x.left(0), 1);
    }

    private static void bestFirst() {
        GridMarket x = cleared();
        x.offer(0, 0, 0, false, 30, 2);
        x.offer(1, 0, 0, false, 20, 2);
        x.offer(2, 0, 0, false, 20, 2);
        x.offer(3, 0, 0, false, 41, 2);
        x.offer(4, 0, 0, true, 40, 5);
        CHECKS.due("cheapest, earlier one", x.left(1), 0);
        CHECKS.due("cheapest, later one", x.left(2), 0);
        CHECKS.due("dearer one", x.left(0), 1);
        CHECKS.due("too dear one", x.left(3), 2);
        CHECKS.due("what came", x.left(4), 0);
        CHECKS.due("plan of who buys", x.plan(0, 4, 0, 0), -5);
        CHECKS.due("plan of who sells", x.plan(0, 0, 0, 0), 1);
        x.offer(5, 0, 0, true, 41, 9);
        CHECKS.due("as good as it: the rest of 30", x.left(0), 0);
        CHECKS.due("as good as it: all of 41", x.left(3), 0);
        CHECKS.due("what rests of what came", x.left(5), 6);
        x.offer(0, 0, 0, false, 10, 1);
        CHECKS.due("what rests is traded with later", x.left(5), 5);
        x.close();
        CHECKS.due("bill by prices of those that rest", x.bill(0, 4), -4 * 20 - 30);
        CHECKS.due("bill of firm 0", x.bill(0, 0), 30 + 30 + 41);
        CHECKS.due("bill of firm 3", x.bill(0, 3), 82);
        CHECKS.due("bill of firm 5", x.bill(0, 5), -30 - 82 - 41);
    }

    private static void bestFirstForSellers() {
        GridMarket x = cleared();
        x.offer(0, 1, 3, true, 20, 1);
        x.offer(1, 1, 3, true, 50, 1);
        x.offer(2, 1, 3, true, 50, 1);
        x.offer(3, 1, 3, true, 30, 1);
        x.offer(4, 1, 3, false, 30, 2);
        CHECKS.due("dearest, earlier one", x.left(1), 0);
        CHECKS.due("dearest, later one", x.left(2), 0);
        CHECKS.due("the next one is not reached", x.left(3), 1);
        x.offer(4, 1, 3, false, 30, 2);
        CHECKS.due("as good as it", x.left(3), 0);
        CHECKS.due("worse than it", x.left(0), 1);
        CHECKS.due("the rest", x.left(5), 1);
        x.close();
        CHECKS.due("bill of who sells", x.bill(0, 4), 130);
    }

    private static void worseThanAsked() {
        GridMarket x = cleared();
        x.offer(0, 0, 0, false, 30, 2);
        x.offer(1, 0, 0, true, 29, 2);
        CHECKS.due("no trade for less", x.left(1), 2);
        x.offer(2, 0, 0, true, 30, 1);
        CHECKS.due("trade for the same", x.left(2), 0);
        x.offer(3, 0, 0, true, 300, 1);
        x.offer(3, 0, 0, true, 300, 1);
        CHECKS.due("offers for the same side do not trade", x.left(4), 1);
        CHECKS.due("plan by offers", x.plan(0, 0, 0, 0), 2);
    }

    private static void ownOffers() {
        GridMarket x = cleared();
        x.offer(0, 0, 0, false, 10, 2);
        x.offer(1, 0, 0, false, 20, 2);
        x.offer(0, 0, 0, true, 30, 3);
        CHECKS.due("its own is passed over", x.left(0), 2);
        CHECKS.due("the next one is not", x.left(1), 0);
        CHECKS.due("the rest of it", x.left(2), 1);
        CHECKS.due("plan", x.plan(0, 0, 0, 0), -2);
    }

    private static void inEachHourAlone() {
        GridMarket x = cleared();
        x.offer(0, 0, 0, false, 10, 2);
        x.offer(1, 0, 1, true, 30, 2);
        CHECKS.due("another hour", x.left(1), 2);
        x.offer(1, 2, 0, true, 30, 2);
        CHECKS.due("another zone", x.left(2), 0);
        CHECKS.due("net of who sells", x.net(0, 0), 2);
        CHECKS.due("net of who buys", x.net(2, 0), -2);
        CHECKS.due("net of the third", x.net(1, 0), 0);
        CHECKS.due("flow 0", x.flow(0, 0), 2);
        CHECKS.due("flow 1", x.flow(1, 0), 2);
        CHECKS.due("flow 2", x.flow(2, 0), 4);
        CHECKS.due("net in another hour", x.net(0, 1), 0);
        CHECKS.due("prices stay", x.price(0, 0), 0);
        CHECKS.due("worth stays", x.worthAnew(), 0);
        x.close();
        CHECKS.due("plan in the zone of who buys", x.plan(0, 1, 2, 0), -2);
        x.clear();
        CHECKS.due("net of the next day", x.net(0, 0), 0);
        CHECKS.due("plan of the next day", x.plan(1, 1, 2, 0), 0);
    }

    private static void limitsLetAPart() {
        GridMarket x = new GridMarket();
        x.setLimit(0, 3);
        x.clear();
        x.offer(0, 0, 0, false, 10, 10);
        x.offer(1, 1, 0, true, 30, 10);
        CHECKS.due("four go from 0 to 1: 2 thirds each, of 9", x.left(1), 6);
        CHECKS.due("flow", x.flow(0, 0), 8);
        x.offer(2, 0, 0, true, 30, 1);
        CHECKS.due("in one zone all can be traded", x.left(2), 0);
        x.offer(3, 2, 0, true, 30, 10);
        CHECKS.due("one goes from 0 to 2: 1 third on line 0", x.left(3), 9);
        CHECKS.due("line 0 is full", x.flow(0, 0), 9);
        x.offer(4, 2, 0, false, 5, 3);
        CHECKS.due("from 2 to 1 no third fits; in zone 2 all", x.left(4), 0);
        CHECKS.due("the best price was passed over", x.left(1), 6);
        CHECKS.due("the same price in its zone", x.left(3), 6);
        x.offer(5, 1, 0, false, 1, 10);
        CHECKS.due("back again, all that wait", x.left(1), 0);
        CHECKS.due("and those in zone 2", x.left(3), 2);
        CHECKS.due("flow then", x.flow(0, 0), 9 - 4);
    }

    /** An offer that was passed over is not looked at again, though a later trade frees the line. */
    private static void passedOverOnce() {
        GridMarket x = new GridMarket();
        x.setLimit(0, 10);
        x.setLimit(1, 10);
        x.setLimit(2, 1);
        x.clear();
        x.offer(0, 0, 0, false, 10, 2);
        x.offer(1, 2, 0, true, 10, 1);
        x.offer(1, 1, 0, true, 10, 1);
        CHECKS.due("line 2 is full", x.flow(2, 0), 3);
        x.offer(2, 0, 0, false, 10, 5);
        x.offer(3, 2, 0, false, 12, 2);
        x.offer(4, 1, 0, true, 20, 5);
        CHECKS.due("dearer one", x.left(4), 0);
        CHECKS.due("the line is freed", x.flow(2, 0), 1);
        CHECKS.due("cheaper one, passed over", x.left(3), 5);
        CHECKS.due("the rest of what came", x.left(5), 3);
        x.offer(5, 1, 0, true, 20, 1);
        CHECKS.due("what comes then trades with it", x.left(3), 4);
        x.offer(2, 2, 0, false, 20, 9);
        CHECKS.due("and it trades with what rests", x.left(5), 0);
    }

    private static void netsOfClearingCount() {
        GridMarket x = new GridMarket();
        x.setLimit(0, 2);
        x.bid(0, 0, 0, false, 10, 2);
        x.bid(1, 1, 0, true, 50, 2);
        CHECKS.due("clear", x.clear(), 80);
        CHECKS.due("net by clearing", x.net(0, 0), 2);
        x.offer(2, 0, 0, false, 10, 5);
        x.offer(3, 1, 0, true, 50, 5);
        CHECKS.due("one more fits behind the two cleared", x.left(1), 4);
        CHECKS.due("net by clearing and offers", x.net(0, 0), 3);
        CHECKS.due("net of who buys", x.net(1, 0), -3);
        x.offer(4, 1, 0, false, 50, 5);
        CHECKS.due("in zone 1", x.left(1), 0);
        x.offer(5, 0, 0, true, 10, 5);
        CHECKS.due("in zone 0", x.left(0), 0);
        CHECKS.due("net stays", x.net(0, 0), 3);
        CHECKS.due("taken stays", x.taken(0), 2);
    }

    private static void takeBack() {
        GridMarket x = cleared();
        x.offer(0, 0, 0, false, 10, 5);
        x.offer(1, 0, 0, true, 10, 2);
        CHECKS.due("takeBack", x.takeBack(0), 3);
        CHECKS.due("left behind it", x.left(0), 0);
        CHECKS.dueThrow("takeBack twice", Checks.STATE, () -> x.takeBack(0));
        CHECKS.dueThrow("takeBack of what is traded", Checks.STATE, () -> x.takeBack(1));
        x.offer(2, 0, 0, true, 10, 1);
        CHECKS.due("no trade with what was taken back", x.left(2), 1);
        CHECKS.due("plan stays", x.plan(0, 0, 0, 0), 2);
        x.close();
        CHECKS.dueThrow("takeBack of yesterday's offer", Checks.INDEX, () -> x.takeBack(2));
    }

    private static void aids() {
        GridMarket x = new GridMarket();
        for (int no : new int[] {-1, 6, FAR[0], FAR[1]}) {
            CHECKS.dueThrow("aid of firm " + no, Checks.INDEX, () -> x.aid(no, 0, true, 1, 1));
            CHECKS.dueThrow("aid of firm " + no + " too dear", Checks.INDEX, () -> x.aid(no, 0, true, 301, 1));
        }
        for (int no : new int[] {-1, 4, FAR[0], FAR[1]}) {
            CHECKS.dueThrow("aid in hour " + no, Checks.INDEX, () -> x.aid(0, no, true, 1, 1));
        }
        for (int no : new int[] {-1, 301, FAR[0], FAR[1]}) {
            CHECKS.dueThrow("aid for " + no, Checks.ARGUMENT, () -> x.aid(0, 0, true, no, 1));
        }
        for (int no : new int[] {0, -1, 11, FAR[0], FAR[1]}) {
            CHECKS.dueThrow("aid of units " + no, Checks.ARGUMENT, () -> x.aid(0, 0, true, 1, no));
        }
        for (int n = 0; n < 15; n++) {
            CHECKS.due("aid " + n, x.aid(n % 6, n % 4, n % 2 == 0, n == 0 ? 300 : 0, n == 0 ? 10 : 1), n);
        }
        x.clear();
        for (int n = 15; n < 30; n++) {
            CHECKS.due("aid " + n + " behind clearing", x.aid(n % 6, n % 4, n % 2 == 0, 1, 1), n);
        }
        CHECKS.dueThrow("aid 30", Checks.STATE, () -> x.aid(0, 0, true, 1, 1));
        CHECKS.dueThrow("aid 30, wrong", Checks.ARGUMENT, () -> x.aid(0, 0, true, 1, 0));
        x.close();
        CHECKS.due("first aid of the next day", x.aid(0, 0, true, 1, 1), 0);
    }

    private static void closing() {
        GridMarket x = new GridMarket();
        x.bid(0, 0, 0, false, 10, 1);
        x.bid(1, 0, 0, true, 20, 1);
        CHECKS.dueThrow("close while open for bids", Checks.STATE, x::close);
        x.clear();
        CHECKS.due("close", x.close(), 1);
        CHECKS.due("phase", x.phase(), GridMarket.BIDS);
        CHECKS.due("plan of the closed day", x.plan(0, 0, 0, 0), 1);
        CHECKS.due("plan of today", x.plan(1, 0, 0, 0), 0);
        CHECKS.due("clear of the next day", x.clear(), 0);
        CHECKS.due("plan of today behind clearing", x.plan(1, 0, 0, 0), 0);
        CHECKS.dueThrow("bids of yesterday", Checks.INDEX, () -> x.taken(0));
        CHECKS.due("close again", x.close(), 2);
    }
}
