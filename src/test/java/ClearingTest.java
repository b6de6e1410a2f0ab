/** Promises 4 to 8 and 17 to 24: bids, blocks, rights, clearing, and what is asked of it. */
public final class ClearingTest {
    private static final Checks CHECKS = new Checks();
    private static final int[] FAR = {Integer.MIN_VALUE, Integer.MAX_VALUE};

    public static void main(String[] args) {
        bidsOfADay();
        wrongBids();
        wrongBlocks();
        wrongLinks();
        wrongAsks();
        failedFirms();
        earlierFirst();
        leastTaken();
        leastFlow();
        leastNets();
        limitsHold();
        farthest();
        priceThroughTheGrid();
        noPrice();
        blockPrices();
        losingBlocks();
        leastSet();
        blocksNotPossible();
        linksAndGroups();
        rights();
        questionsAheadOfClearing();
        CHECKS.end();
    }

    private static void bidsOfADay() {
        GridMarket x = new GridMarket();
        for (int n = 0; n < 40; n++) {
            CHECKS.due("bid " + n, x.bid(n % 6, n % 3, n % 4, n % 2 == 0, n == 0 ? 0 : 200, n == 0 ? 10 : 1), n);
        }
        CHECKS.dueThrow("bid 40", Checks.STATE, () -> x.bid(0, 0, 0, true, 1, 1));
        CHECKS.dueThrow("bid 40, wrong", Checks.ARGUMENT, () -> x.bid(0, 0, 0, true, 1, 0));
        for (int n = 0; n < 5; n++) {
            CHECKS.due("block " + n, x.block(n, n % 3, n == 0 ? 1 : 15, true, n == 0 ? 200 : 0, n == 0 ? 10 : 1), n);
        }
        CHECKS.dueThrow("block 5", Checks.STATE, () -> x.block(0, 0, 1, true, 1, 1));
        CHECKS.dueThrow("block 5, wrong", Checks.ARGUMENT, () -> x.block(0, 0, 0, true, 1, 1));
        for (int n = 0; n < 20; n++) {
            CHECKS.due("ask " + n, x.ask(n % 6, n % 3, (n + 1) % 3, n == 0 ? 10 : 1, n == 0 ? 500 : 0), n);
        }
        CHECKS.dueThrow("ask 20", Checks.STATE, () -> x.ask(0, 0, 1, 1, 1));
        CHECKS.dueThrow("ask 20, wrong", Checks.ARGUMENT, () -> x.ask(0, 0, 0, 1, 1));
        x.clear();
        CHECKS.dueThrow("bid behind clearing", Checks.STATE, () -> x.bid(0, 0, 0, true, 1, 1));
        CHECKS.dueThrow("block behind clearing", Checks.STATE, () -> x.block(0, 0, 1, true, 1, 1));
        CHECKS.dueThrow("ask behind clearing", Checks.STATE, () -> x.ask(0, 0, 1, 1, 1));
        CHECKS.dueThrow("link behind clearing", Checks.STATE, () -> x.link(1, 0, 0));
        CHECKS.due("taken of the last bid is answered", x.taken(39) >= 0, true);
        x.close();
        CHECKS.due("first bid of the next day", x.bid(0, 0, 0, true, 1, 1), 0);
        CHECKS.due("first block of the next day", x.block(0, 0, 1, true, 1, 1), 0);
        CHECKS.due("first ask of the next day", x.ask(0, 0, 1, 1, 1), 0);
        CHECKS.due("the next day's clearing", x.clear(), 0);
        CHECKS.dueThrow("taken of yesterday's bid", Checks.INDEX, () -> x.taken(1));
        CHECKS.dueThrow("isTaken of yesterday's block", Checks.INDEX, () -> x.isTaken(1));
        CHECKS.dueThrow("given of yesterday's ask", Checks.INDEX, () -> x.given(1));
    }

    private static void wrongBids() {
        GridMarket x = new GridMarket();
        for (int no : new int[] {-1, 6, FAR[0], FAR[1]}) {
            CHECKS.dueThrow("bid of firm " + no, Checks.INDEX, () -> x.bid(no, 0, 0, true, 1, 1));
            CHECKS.dueThrow("bid of firm " + no + " too dear", Checks.INDEX, () -> x.bid(no, 0, 0, true, 201, 1));
        }
        for (int no : new int[] {-1, 3, FAR[0], FAR[1]}) {
            CHECKS.dueThrow("bid in zone " + no, Checks.INDEX, () -> x.bid(0, no, 0, true, 1, 1));
            CHECKS.dueThrow("bid in zone " + no + " of too much", Checks.INDEX, () -> x.bid(0, no, 0, true, 1, 11));
        }
        for (int no : new int[] {-1, 4, FAR[0], FAR[1]}) {
            CHECKS.dueThrow("bid in hour " + no, Checks.INDEX, () -> x.bid(0, 0, no, true, 1, 1));
        }
        for (int no : new int[] {-1, 201, FAR[0], FAR[1]}) {
            CHECKS.dueThrow("bid for " + no, Checks.ARGUMENT, () -> x.bid(0, 0, 0, true, no, 1));
        }
        for (int no : new int[] {0, -1, 11, FAR[0], FAR[1]}) {
            CHECKS.dueThrow("bid of units " + no, Checks.ARGUMENT, () -> x.bid(0, 0, 0, true, 1, no));
        }
        CHECKS.due("a bid behind wrong ones", x.bid(0, 0, 0, true, 0, 1), 0);
        x.clear();
        CHECKS.dueThrow("a wrong bid behind clearing", Checks.ARGUMENT, () -> x.bid(0, 0, 0, true, 1, 0));
        CHECKS.dueThrow("a bid of no firm behind clearing", Checks.INDEX, () -> x.bid(6, 0, 0, true, 1, 0));
    }

    private static void wrongBlocks() {
        GridMarket x = new GridMarket();
        for (int no : new int[] {-1, 6, FAR[0], FAR[1]}) {
            CHECKS.dueThrow("block of firm " + no, Checks.INDEX, () -> x.block(no, 0, 1, true, 1, 1));
            CHECKS.dueThrow("block of firm " + no + " in no hour", Checks.INDEX, () -> x.block(no, 0, 0, true, 1, 1));
        }
        for (int no : new int[] {-1, 3, FAR[0], FAR[1]}) {
            CHECKS.dueThrow("block in zone " + no, Checks.INDEX, () -> x.block(0, no, 1, true, 1, 1));
        }
        for (int no : new int[] {0, -1, 16, FAR[0], FAR[1]}) {
            CHECKS.dueThrow("block in hours " + no, Checks.ARGUMENT, () -> x.block(0, 0, no, true, 1, 1));
        }
        for (int no : new int[] {-1, 201, FAR[0], FAR[1]}) {
            CHECKS.dueThrow("block for " + no, Checks.ARGUMENT, () -> x.block(0, 0, 1, true, no, 1));
        }
        for (int no : new int[] {0, -1, 11, FAR[0], FAR[1]}) {
            CHECKS.dueThrow("block of units " + no, Checks.ARGUMENT, () -> x.block(0, 0, 1, true, 1, no));
        }
        CHECKS.due("a block behind wrong ones", x.block(0, 0, 1, true, 1, 1), 0);
    }

    private static void wrongLinks() {
        GridMarket x = new GridMarket();
        CHECKS.dueThrow("link of no block", Checks.INDEX, () -> x.link(0, -1, -1));
        for (int n = 0; n < 3; n++) {
            x.block(n, 0, 1, false, 10, 1);
        }
        for (int no : new int[] {-1, 3, 5, FAR[0], FAR[1]}) {
            CHECKS.dueThrow("link of block " + no, Checks.INDEX, () -> x.link(no, -1, -1));
            CHECKS.dueThrow("link of block " + no + " to no block", Checks.INDEX, () -> x.link(no, 9, 9));
        }
        for (int no : new int[] {-2, 1, 2, 3, FAR[0], FAR[1]}) {
            CHECKS.dueThrow("link of 1 to " + no, Checks.ARGUMENT, () -> x.link(1, no, -1));
        }
        for (int no : new int[] {-2, 3, FAR[0], FAR[1]}) {
            CHECKS.dueThrow("link of 1 into group " + no, Checks.ARGUMENT, () -> x.link(1, 0, no));
        }
        CHECKS.dueThrow("link of 0 to itself", Checks.ARGUMENT, () -> x.link(0, 0, 0));
        x.link(1, 0, 2);
        x.link(2, 1, 0);
        x.link(0, -1, -1);
        x.clear();
        CHECKS.dueThrow("link behind clearing", Checks.STATE, () -> x.link(1, 0, 0));
        CHECKS.dueThrow("wrong link behind clearing", Checks.ARGUMENT, () -> x.link(1, 1, 0));
        CHECKS.dueThrow("link of no block behind clearing", Checks.INDEX, () -> x.link(3, 0, 0));
        x.close();
        CHECKS.dueThrow("link of yesterday's block", Checks.INDEX, () -> x.link(1, 0, 0));
    }

    private static void wrongAsks() {
        GridMarket x = new GridMarket();
        for (int no : new int[] {-1, 6, FAR[0], FAR[1]}) {
            CHECKS.dueThrow("ask of firm " + no, Checks.INDEX, () -> x.ask(no, 0, 1, 1, 1));
            CHECKS.dueThrow("ask of firm " + no + " from 1 to 1", Checks.INDEX, () -> x.ask(no, 1, 1, 1, 1));
        }
        for (int no : new int[] {-1, 3, FAR[0], FAR[1]}) {
            CHECKS.dueThrow("ask from " + no, Checks.INDEX, () -> x.ask(0, no, 1, 1, 1));
            CHECKS.dueThrow("ask to " + no, Checks.INDEX, () -> x.ask(0, 1, no, 1, 1));
            CHECKS.dueThrow("ask from and to " + no, Checks.INDEX, () -> x.ask(0, no, no, 1, 1));
        }
        for (int no : new int[] {0, 1, 2}) {
            CHECKS.dueThrow("ask from a zone to itself", Checks.ARGUMENT, () -> x.ask(0, no, no, 1, 1));
        }
        for (int no : new int[] {0, -1, 11, FAR[0], FAR[1]}) {
            CHECKS.dueThrow("ask of units " + no, Checks.ARGUMENT, () -> x.ask(0, 0, 1, no, 1));
        }
        for (int no : new int[] {-1, 501, FAR[0], FAR[1]}) {
            CHECKS.dueThrow("ask for " + no, Checks.ARGUMENT, () -> x.ask(0, 0, 1, 1, no));
        }
        CHECKS.due("an ask behind wrong ones", x.ask(0, 0, 1, 10, 500), 0);
    }

    private static void failedFirms() {
        GridMarket x = new GridMarket();
        x.bid(0, 0, 0, true, 100, 1);
        x.bid(1, 0, 0, false, 50, 1);
        x.clear();
        x.close();
        CHECKS.due("run(0)", x.run(0), 1);
        CHECKS.dueThrow("bid of a failed firm", Checks.STATE, () -> x.bid(0, 0, 0, true, 1, 1));
        CHECKS.dueThrow("wrong bid of a failed firm", Checks.ARGUMENT, () -> x.bid(0, 0, 0, true, 201, 1));
        CHECKS.dueThrow("block of a failed firm", Checks.STATE, () -> x.block(0, 0, 1, true, 1, 1));
        CHECKS.dueThrow("ask of a failed firm", Checks.STATE, () -> x.ask(0, 0, 1, 1, 1));
        CHECKS.dueThrow("aid of a failed firm", Checks.STATE, () -> x.aid(0, 0, true, 1, 1));
        CHECKS.due("bid of another firm", x.bid(1, 0, 0, true, 1, 1), 0);
        x.clear();
        CHECKS.dueThrow("offer of a failed firm", Checks.STATE, () -> x.offer(0, 0, 0, true, 1, 1));
        CHECKS.dueThrow("aid of a failed firm behind clearing", Checks.STATE, () -> x.aid(0, 0, true, 1, 1));
        CHECKS.due("offer of another firm", x.offer(1, 0, 0, true, 1, 1), 0);
        CHECKS.due("aid of another firm", x.aid(1, 0, true, 1, 1), 0);
    }

    private static void earlierFirst() {
        GridMarket x = new GridMarket();
        x.bid(0, 0, 1, false, 10, 3);
        x.bid(1, 0, 1, false, 10, 3);
        x.bid(2, 0, 1, false, 9, 1);
        x.bid(3, 0, 1, true, 20, 2);
        x.bid(4, 0, 1, true, 25, 2);
        x.bid(5, 0, 1, true, 20, 1);
        x.bid(5, 0, 1, true, 9, 9);
        CHECKS.due("clear", x.clear(), 50 + 60 - 9 - 40);
        CHECKS.due("earlier one of a price to sell", x.taken(0), 3);
        CHECKS.due("later one of a price to sell", x.taken(1), 1);
        CHECKS.due("cheaper one to sell", x.taken(2), 1);
        CHECKS.due("earlier one of a price to buy", x.taken(3), 2);
        CHECKS.due("dearer one to buy", x.taken(4), 2);
        CHECKS.due("later one of a price to buy", x.taken(5), 1);
        CHECKS.due("one that buys for too little", x.taken(6), 0);
        CHECKS.due("price: one unit less to sell", x.price(0, 1), 10);
        CHECKS.due("price of zone 1", x.price(1, 1), 10);
        CHECKS.due("price in another hour", x.price(0, 0), 0);
        CHECKS.due("worthAnew", x.worthAnew(), 61);
        CHECKS.due("plan of firm 3", x.plan(0, 3, 0, 1), -2);
        CHECKS.due("plan of firm 1", x.plan(0, 1, 0, 1), 1);
    }

    private static void leastTaken() {
        GridMarket x = new GridMarket();
        x.bid(0, 0, 0, false, 20, 1);
        x.bid(1, 0, 0, true, 20, 1);
        x.bid(0, 1, 3, false, 0, 1);
        x.bid(1, 1, 3, true, 0, 1);
        CHECKS.due("clear of equal prices", x.clear(), 0);
        CHECKS.due("sold for nothing more", x.taken(0), 0);
        CHECKS.due("bought for nothing more", x.taken(1), 0);
        CHECKS.due("sold for 0", x.taken(2), 0);
        CHECKS.due("price: one unit bought", x.price(0, 0), 20);
        CHECKS.due("price of 0", x.price(1, 3), 0);
    }

    private static void leastFlow() {
        GridMarket x = new GridMarket();
        x.bid(0, 0, 2, false, 10, 2);
        x.bid(1, 1, 2, false, 10, 2);
        x.bid(2, 1, 2, true, 50, 2);
        CHECKS.due("clear", x.clear(), 80);
        CHECKS.due("taken where it is bought", x.taken(1), 2);
        CHECKS.due("taken elsewhere", x.taken(0), 0);
        for (int zone = 0; zone < 3; zone++) {
            CHECKS.due("net", x.net(zone, 2), 0);
            CHECKS.due("flow", x.flow(zone, 2), 0);
        }
        GridMarket y = new GridMarket();
        y.bid(0, 0, 0, false, 10, 2);
        y.bid(1, 1, 0, true, 50, 2);
        y.bid(2, 2, 0, false, 10, 2);
        CHECKS.due("clear", y.clear(), 80);
        CHECKS.due("one from each side goes on the lines least", y.net(0, 0), 1);
        CHECKS.due("net of who buys", y.net(1, 0), -2);
        CHECKS.due("net of zone 2", y.net(2, 0), 1);
        GridMarket z = new GridMarket();
        z.bid(0, 2, 0, false, 10, 2);
        z.bid(1, 0, 0, true, 50, 2);
        z.bid(2, 1, 0, true, 50, 2);
        CHECKS.due("clear", z.clear(), 80);
        CHECKS.due("one to each side goes on the lines least", z.net(0, 0), -1);
        CHECKS.due("net of who sells", z.net(2, 0), 2);
    }

    private static void leastNets() {
        GridMarket x = new GridMarket();
        x.bid(0, 0, 0, false, 10, 1);
        x.bid(1, 1, 0, false, 10, 1);
        x.bid(2, 2, 0, true, 50, 1);
        x.bid(0, 0, 1, false, 10, 1);
        x.bid(1, 1, 1, true, 50, 1);
        x.bid(2, 2, 1, true, 50, 1);
        CHECKS.due("clear", x.clear(), 80);
        CHECKS.due("least net of zone 0", x.net(0, 0), 0);
        CHECKS.due("net of zone 1", x.net(1, 0), 1);
        CHECKS.due("net of zone 2", x.net(2, 0), -1);
        CHECKS.due("line 0 backwards", x.flow(0, 0), -1);
        CHECKS.due("line 1", x.flow(1, 0), 2);
        CHECKS.due("line 2", x.flow(2, 0), 1);
        CHECKS.due("net of zone 0, hour 1", x.net(0, 1), 1);
        CHECKS.due("least net of zone 1", x.net(1, 1), -1);
        CHECKS.due("net of zone 2, hour 1", x.net(2, 1), 0);
        CHECKS.due("taken in zone 0, hour 0", x.taken(0), 0);
        CHECKS.due("taken in zone 1, hour 0", x.taken(1), 1);
        CHECKS.due("taken in zone 1, hour 1", x.taken(4), 1);
        CHECKS.due("taken in zone 2, hour 1", x.taken(5), 0);
    }

    private static void limitsHold() {
        int[] begin = {0, 1, 0};
        int[] end = {1, 2, 2};
        for (int limit = 0; limit <= 10; limit++) {
            for (int line = 0; line < 3; line++) {
                limitHolds(line, limit, begin[line], end[line], 1);
                limitHolds(line, limit, end[line], begin[line], -1);
            }
        }
        GridMarket x = new GridMarket();
        for (int line = 0; line < 3; line++) {
            x.setLimit(line, 10);
        }
        x.block(0, 0, 1, false, 0, 10);
        x.block(0, 0, 1, false, 0, 10);
        x.bid(1, 1, 0, true, 30, 10);
        x.bid(1, 2, 0, true, 30, 10);
        CHECKS.due("farthest net", x.clear(), 600);
        CHECKS.due("net of 20", x.net(0, 0), 20);
        CHECKS.due("flow of 30", x.flow(0, 0), 30);
    }

    /** Of n units from a zone to another one two thirds go on the line between them, one third round by the third zone. */
    private static void limitHolds(int line, int limit, int from, int to, int sign) {
        GridMarket x = new GridMarket();
        for (int other = 0; other < 3; other++) {
            x.setLimit(other, other == line ? limit : 10);
        }
        for (int n = 0; n < 2; n++) {
            x.bid(0, from, 0, false, 10, 10);
            x.bid(1, to, 0, true, 30, 10);
        }
        int most = limit * 3 / 2;
        CHECKS.due("clear, limit " + limit + " of line " + line, x.clear(), most * 20);
        CHECKS.due("net of who sells", x.net(from, 0), most);
        CHECKS.due("net of who buys", x.net(to, 0), -most);
        for (int other = 0; other < 3; other++) {
            int thirds = other == line ? 2 : other == 2 || line == 2 ? 1 : -1;
            CHECKS.due("flow of line " + other + " by line " + line, x.flow(other, 0), sign * thirds * most);
        }
    }

    /** As many units as there can be in one zone and hour, and as much as bids may have to make. */
    private static void farthest() {
        GridMarket x = new GridMarket();
        for (int n = 0; n < 40; n++) {
            x.bid(0, 0, 0, false, 39 - n, 10);
        }
        for (int n = 0; n < 5; n++) {
            x.block(1, 0, 1, true, 100, 10);
        }
        CHECKS.due("clear of 400 units to sell", x.clear(), 50 * 100 - 10 * (0 + 1 + 2 + 3 + 4));
        CHECKS.due("cheapest", x.taken(39), 10);
        CHECKS.due("fifth", x.taken(35), 10);
        CHECKS.due("sixth", x.taken(34), 0);
        CHECKS.due("price", x.price(0, 0), 4);
        x.close();
        for (int n = 0; n < 40; n++) {
            x.bid(0, 2, 3, true, 100 + n, 10);
        }
        for (int n = 0; n < 5; n++) {
            x.block(1, 2, 8, false, 1, 10);
        }
        CHECKS.due("clear of 400 units to buy", x.clear(), -50 + 10 * (139 + 138 + 137 + 136 + 135));
        CHECKS.due("fifth", x.taken(35), 10);
        CHECKS.due("sixth", x.taken(34), 0);
        CHECKS.due("price", x.price(2, 3), 134);
        x.close();
        for (int n = 0; n < 20; n++) {
            x.bid(0, 1, 1, true, 200, 10);
            x.bid(0, 1, 1, false, 0, 10);
        }
        CHECKS.due("clear of 200 and 200 units", x.clear(), 40000);
        x.close();
        farthestMade(1);
        farthestMade(-1);
    }

    /** The bids of zone 0 must make 20 more than the 50 of the blocks: 70 to sell, or to buy. */
    private static void farthestMade(int sign) {
        GridMarket x = new GridMarket();
        for (int line = 0; line < 3; line++) {
            x.setLimit(line, 10);
        }
        for (int n = 0; n < 8; n++) {
            x.bid(0, 0, 0, sign < 0, 100 + sign * n, 10);
        }
        for (int n = 0; n < 5; n++) {
            x.block(1, 0, 1, sign > 0, 100 + sign * 50, 10);
        }
        x.bid(2, 1, 0, sign > 0, 100 + sign * 60, 10);
        x.bid(2, 2, 0, sign > 0, 100 + sign * 60, 10);
        CHECKS.due("clear", x.clear(), 50 * 50 + 20 * 60 - 10 * (1 + 2 + 3 + 4 + 5 + 6));
        CHECKS.due("net", x.net(0, 0), sign * 20);
        CHECKS.due("last one taken", x.taken(6), 10);
        CHECKS.due("next one", x.taken(7), 0);
        CHECKS.due("price of zone 0", x.price(0, 0), sign > 0 ? 106 : 93);
        for (int n = 0; n < 5; n++) {
            CHECKS.due("block", x.isTaken(n), true);
        }
    }

    /** What goes by shares lets a unit be worth nothing in one zone, and more than any bid in another one. */
    private static void priceThroughTheGrid() {
        GridMarket x = new GridMarket();
        x.setLimit(0, 1);
        x.setLimit(1, 10);
        x.setLimit(2, 10);
        x.bid(0, 0, 0, false, 10, 10);
        x.bid(1, 1, 0, true, 100, 10);
        x.bid(2, 2, 0, false, 20, 10);
        // The net of zone 0 less that of zone 1 is 3 at most: each unit sold in zone 0 is one less bought.
        CHECKS.due("clear", x.clear(), 240);
        CHECKS.due("net of zone 0", x.net(0, 0), 0);
        CHECKS.due("net of zone 1", x.net(1, 0), -3);
        CHECKS.due("net of zone 2", x.net(2, 0), 3);
        CHECKS.due("price where one unit more must go out, for less", x.price(0, 0), 0);
        CHECKS.due("price of zone 1", x.price(1, 0), 100);
        CHECKS.due("price of zone 2", x.price(2, 0), 20);
        GridMarket y = new GridMarket();
        y.setLimit(2, 0);
        y.bid(0, 0, 0, false, 10, 1);
        y.bid(0, 1, 0, true, 50, 10);
        // Line 2 lets nothing through: zone 0 sells one unit only if zone 2 gives one too.
        CHECKS.due("clear with nothing in zone 2", y.clear(), 0);
        CHECKS.due("price of zone 2: one unit there brings two to zone 1", y.price(2, 0), 90);
        CHECKS.due("price of zone 1", y.price(1, 0), 50);
        CHECKS.due("price of zone 0", y.price(0, 0), 0);
    }

    private static void noPrice() {
        GridMarket x = new GridMarket();
        x.block(0, 0, 1, false, 0, 1);
        x.bid(1, 0, 0, true, 50, 1);
        CHECKS.due("clear", x.clear(), 50);
        CHECKS.due("the block is taken", x.isTaken(0), true);
        CHECKS.due("no price where one unit more has no place", x.price(0, 0), 0);
        CHECKS.due("its gain", x.gain(0), 0);
        CHECKS.due("plan of the block", x.plan(0, 0, 0, 0), 1);
    }

    private static void blockPrices() {
        GridMarket x = new GridMarket();
        x.bid(0, 0, 0, false, 10, 10);
        x.bid(0, 0, 3, false, 30, 10);
        x.block(1, 0, 9, true, 25, 5);
        x.block(2, 1, 9, true, 19, 1);
        CHECKS.due("clear", x.clear(), 2 * 5 * 25 - 5 * 10 - 5 * 30);
        CHECKS.due("block to buy", x.isTaken(0), true);
        CHECKS.due("block that would lose", x.isTaken(1), false);
        CHECKS.due("price of hour 0", x.price(0, 0), 10);
        CHECKS.due("price of hour 3", x.price(0, 3), 30);
        CHECKS.due("gain of the block to buy", x.gain(0), 10);
        CHECKS.due("what the other one would lose", x.gain(1), -2);
        CHECKS.due("taken for the block", x.taken(0), 5);
        CHECKS.due("plan of the block, hour 0", x.plan(0, 1, 0, 0), -5);
        CHECKS.due("plan of the block, hour 3", x.plan(0, 1, 0, 3), -5);
        CHECKS.due("plan of the block, hour 1", x.plan(0, 1, 0, 1), 0);
        x.close();
        CHECKS.due("bill of the block", x.bill(0, 1), -200);
        CHECKS.due("bill of who sells to it", x.bill(0, 0), 200);
    }

    private static void losingBlocks() {
        GridMarket x = new GridMarket();
        x.bid(0, 0, 0, true, 60, 1);
        x.bid(0, 0, 0, true, 10, 9);
        // All ten units are worth 150, which is more than their cost; but one unit more would bring 10 or 0.
        x.block(1, 0, 1, false, 12, 10);
        CHECKS.due("clear without a block that loses", x.clear(), 0);
        CHECKS.due("isTaken", x.isTaken(0), false);
        CHECKS.due("price without it", x.price(0, 0), 60);
        CHECKS.due("what it would gain by that", x.gain(0), 48);
        x.close();
        x.bid(0, 0, 0, true, 60, 1);
        x.bid(0, 0, 0, true, 10, 10);
        x.block(1, 0, 1, false, 10, 10);
        CHECKS.due("clear with a block that neither gains nor loses", x.clear(), 60 + 90 - 100);
        CHECKS.due("isTaken", x.isTaken(0), true);
        CHECKS.due("its gain", x.gain(0), 0);
    }

    private static void leastSet() {
        GridMarket x = new GridMarket();
        x.bid(0, 0, 0, true, 60, 10);
        x.block(1, 0, 1, false, 10, 9);
        x.block(2, 0, 1, false, 10, 9);
        CHECKS.due("clear of two alike", x.clear(), 450);
        CHECKS.due("the first one", x.isTaken(0), true);
        CHECKS.due("the second one", x.isTaken(1), false);
        x.close();
        x.block(1, 0, 1, false, 10, 9);
        x.block(2, 0, 1, true, 10, 9);
        CHECKS.due("clear of two worth nothing", x.clear(), 0);
        CHECKS.due("no one of them, first", x.isTaken(0), false);
        CHECKS.due("no one of them, second", x.isTaken(1), false);
    }

    private static void blocksNotPossible() {
        GridMarket x = new GridMarket();
        x.block(1, 0, 1, false, 0, 10);
        x.block(2, 1, 1, true, 50, 10);
        CHECKS.due("two blocks that the limits part", x.clear(), 0);
        CHECKS.due("isTaken", x.isTaken(0), false);
        x.close();
        x.setLimit(0, 10);
        x.block(1, 0, 1, false, 0, 10);
        x.block(2, 1, 1, true, 50, 10);
        CHECKS.due("two blocks that the limits let", x.clear(), 500);
        CHECKS.due("first is taken", x.isTaken(0), true);
        CHECKS.due("second is taken", x.isTaken(1), true);
        CHECKS.due("price where nothing more fits", x.price(0, 0), 0);
        CHECKS.due("net", x.net(0, 0), 10);
        CHECKS.due("flow", x.flow(0, 0), 20);
    }

    private static GridMarket marketOfTwoBlocks(int first, int second) {
        GridMarket x = new GridMarket();
        x.bid(0, 0, 0, true, 60, 10);
        x.bid(0, 0, 0, true, 60, 10);
        x.block(1, 0, 1, false, first, 9);
        x.block(2, 0, 1, false, second, 5);
        return x;
    }

    private static void linksAndGroups() {
        GridMarket x = marketOfTwoBlocks(10, 10);
        CHECKS.due("both, if they are free", x.clear(), 50 * 14);
        GridMarket g = marketOfTwoBlocks(10, 10);
        g.link(0, -1, 2);
        g.link(1, -1, 2);
        CHECKS.due("one of a group", g.clear(), 50 * 9);
        CHECKS.due("the better one", g.isTaken(0), true);
        GridMarket h = marketOfTwoBlocks(10, 10);
        h.link(0, -1, 0);
        h.link(1, -1, 1);
        CHECKS.due("two groups", h.clear(), 50 * 14);
        GridMarket n = marketOfTwoBlocks(10, 10);
        n.link(0, -1, 2);
        n.link(1, -1, 2);
        n.link(0, -1, -1);
        CHECKS.due("out of the group again", n.clear(), 50 * 14);
        GridMarket l = marketOfTwoBlocks(61, 10);
        l.link(1, 0, -1);
        CHECKS.due("linked to one that loses", l.clear(), 0);
        CHECKS.due("isTaken of the linked one", l.isTaken(1), false);
        GridMarket m = marketOfTwoBlocks(61, 10);
        m.link(1, 0, -1);
        m.link(1, -1, -1);
        CHECKS.due("linked no more", m.clear(), 250);
        GridMarket o = marketOfTwoBlocks(10, 10);
        o.link(1, 0, 1);
        o.link(0, -1, 1);
        CHECKS.due("linked to one of its own group", o.clear(), 450);
        GridMarket c = marketOfTwoBlocks(10, 61);
        c.block(3, 0, 1, false, 1, 1);
        c.link(1, 0, -1);
        c.link(2, 1, -1);
        CHECKS.due("a chain, its middle loses", c.clear(), 450);
        CHECKS.due("the end of the chain", c.isTaken(2), false);
        c.close();
        c.bid(0, 0, 0, true, 60, 10);
        c.bid(0, 0, 0, true, 60, 10);
        c.block(1, 0, 1, false, 61, 9);
        c.block(2, 0, 1, false, 10, 5);
        CHECKS.due("links are of their day", c.clear(), 250);
        g.close();
        g.bid(0, 0, 0, true, 60, 10);
        g.bid(0, 0, 0, true, 60, 10);
        g.block(1, 0, 1, false, 10, 9);
        g.block(2, 0, 1, false, 10, 5);
        CHECKS.due("groups are of their day", g.clear(), 50 * 14);
    }

    private static void rights() {
        GridMarket x = new GridMarket();
        x.setLimit(0, 3);
        x.setLimit(1, 10);
        x.setLimit(2, 0);
        x.bid(0, 0, 0, false, 10, 1);
        x.bid(0, 1, 0, true, 50, 10);
        x.bid(0, 1, 2, true, 7, 10);
        x.ask(1, 0, 1, 2, 20);
        x.ask(2, 0, 1, 3, 30);
        x.ask(3, 0, 1, 1, 20);
        x.ask(4, 0, 1, 1, 30);
        x.ask(1, 1, 0, 3, 99);
        x.ask(2, 1, 2, 10, 1);
        x.ask(3, 2, 1, 10, 1);
        x.ask(4, 2, 1, 1, 0);
        x.ask(5, 0, 2, 1, 500);
        x.ask(5, 2, 0, 1, 500);
        x.clear();
        CHECKS.due("dearest ask", x.given(1), 3);
        CHECKS.due("later one of its price gets nothing", x.given(3), 0);
        CHECKS.due("cheaper ask", x.given(0), 0);
        CHECKS.due("cheapest ask", x.given(2), 0);
        CHECKS.due("the other way", x.given(4), 3);
        CHECKS.due("line 1", x.given(5), 10);
        CHECKS.due("line 1 back, dearer", x.given(6), 10);
        CHECKS.due("line 1 back, cheaper", x.given(7), 0);
        CHECKS.due("line of limit 0", x.given(8), 0);
        CHECKS.due("line of limit 0 back", x.given(9), 0);
        CHECKS.due("price of zone 0", x.price(0, 0), 0);
        CHECKS.due("price of zone 1", x.price(1, 0), 50);
        CHECKS.due("price of zone 2", x.price(2, 0), 90);
        CHECKS.due("price of zone 1, hour 2", x.price(1, 2), 7);
        CHECKS.due("price of zone 2, hour 2", x.price(2, 2), 0);
        x.close();
        CHECKS.due("the given one costs its own price; both give", x.bill(0, 2), 3 * (50 + 7) - 90 + 10 * (90 - 50));
        CHECKS.due("all given: no cost", x.bill(0, 1), 0);
        CHECKS.due("not all given: cost of the last that got some", x.bill(0, 3), 10 * 7 - 10);
        CHECKS.due("nothing given: no cost", x.bill(0, 5), 0);
        CHECKS.due("nothing given of two", x.bill(0, 4), 0);
        rightsThatGive();
    }

    private static void rightsThatGive() {
        GridMarket x = new GridMarket();
        for (int line = 0; line < 3; line++) {
            x.setLimit(line, line == 0 ? 0 : 2);
        }
        x.bid(0, 0, 0, false, 10, 1);
        x.bid(0, 0, 1, true, 40, 1);
        x.setLimit(2, 0);
        x.bid(0, 2, 0, true, 70, 1);
        x.bid(0, 2, 1, true, 15, 1);
        x.bid(0, 2, 3, true, 5, 1);
        x.ask(1, 1, 2, 2, 30);
        x.ask(2, 2, 1, 1, 30);
        x.ask(3, 1, 2, 1, 29);
        x.clear();
        CHECKS.due("price of zone 1, hour 0", x.price(1, 0), 0);
        CHECKS.due("price of zone 2, hour 0", x.price(2, 0), 70);
        CHECKS.due("price of zone 2, hour 1", x.price(2, 1), 15);
        CHECKS.due("price of zone 2, hour 3", x.price(2, 3), 5);
        x.close();
        CHECKS.due("rights give the differences of all hours, and cost", x.bill(0, 1), 2 * 90 - 2 * 30);
        CHECKS.due("the right back gives nothing", x.bill(0, 2), 0);
        CHECKS.due("no right", x.bill(0, 3), 0);
        x.setLimit(1, 0);
        x.setLimit(0, 1);
        x.setLimit(2, 1);
        x.bid(0, 0, 0, false, 10, 10);
        x.bid(0, 1, 0, true, 70, 10);
        x.bid(0, 1, 1, true, 20, 10);
        x.bid(0, 0, 2, true, 90, 10);
        x.ask(1, 0, 1, 1, 30);
        x.ask(2, 1, 0, 1, 30);
        x.clear();
        int[] up = new int[4];
        for (int hour = 0; hour < 4; hour++) {
            up[hour] = x.price(1, hour) - x.price(0, hour);
        }
        CHECKS.due("difference of hour 0", up[0], 70);
        CHECKS.due("difference of hour 1", up[1], 20);
        CHECKS.due("difference of hour 2", up[2], -90);
        CHECKS.due("difference of hour 3", up[3], 0);
        x.close();
        CHECKS.due("a right gives where its zone is dearer", x.bill(1, 1), 90);
        CHECKS.due("the right the other way", x.bill(1, 2), 90);
    }

    private static void questionsAheadOfClearing() {
        GridMarket x = new GridMarket();
        CHECKS.dueThrow("taken of no bid", Checks.INDEX, () -> x.taken(0));
        CHECKS.dueThrow("isTaken of no block", Checks.INDEX, () -> x.isTaken(0));
        CHECKS.dueThrow("gain of no block", Checks.INDEX, () -> x.gain(0));
        CHECKS.dueThrow("given of no ask", Checks.INDEX, () -> x.given(0));
        x.bid(0, 0, 0, true, 20, 1);
        x.block(0, 0, 1, true, 20, 1);
        x.ask(0, 0, 1, 1, 1);
        CHECKS.dueThrow("taken ahead", Checks.STATE, () -> x.taken(0));
        CHECKS.dueThrow("isTaken ahead", Checks.STATE, () -> x.isTaken(0));
        CHECKS.dueThrow("gain ahead", Checks.STATE, () -> x.gain(0));
        CHECKS.dueThrow("given ahead", Checks.STATE, () -> x.given(0));
        CHECKS.dueThrow("worthAnew ahead", Checks.STATE, x::worthAnew);
        CHECKS.dueThrow("price ahead", Checks.STATE, () -> x.price(0, 0));
        CHECKS.dueThrow("net ahead", Checks.STATE, () -> x.net(0, 0));
        CHECKS.dueThrow("flow ahead", Checks.STATE, () -> x.flow(0, 0));
        wrongPlaces(x);
        x.clear();
        CHECKS.due("taken of nothing sold", x.taken(0), 0);
        CHECKS.due("price for a unit from nowhere", x.price(2, 0), 20);
        wrongPlaces(x);
        for (int no : new int[] {-1, 1, FAR[0], FAR[1]}) {
            CHECKS.dueThrow("taken of " + no, Checks.INDEX, () -> x.taken(no));
            CHECKS.dueThrow("isTaken of " + no, Checks.INDEX, () -> x.isTaken(no));
            CHECKS.dueThrow("gain of " + no, Checks.INDEX, () -> x.gain(no));
            CHECKS.dueThrow("given of " + no, Checks.INDEX, () -> x.given(no));
        }
        x.close();
        CHECKS.dueThrow("price on the next day", Checks.STATE, () -> x.price(0, 0));
        CHECKS.dueThrow("worthAnew on the next day", Checks.STATE, x::worthAnew);
    }

    private static void wrongPlaces(GridMarket x) {
        for (int no : new int[] {-1, 3, FAR[0], FAR[1]}) {
            CHECKS.dueThrow("price of zone " + no, Checks.INDEX, () -> x.price(no, 0));
            CHECKS.dueThrow("net of zone " + no, Checks.INDEX, () -> x.net(no, 0));
            CHECKS.dueThrow("flow of line " + no, Checks.INDEX, () -> x.flow(no, 0));
        }
        for (int no : new int[] {-1, 4, FAR[0], FAR[1]}) {
            CHECKS.dueThrow("price of hour " + no, Checks.INDEX, () -> x.price(0, no));
            CHECKS.dueThrow("net of hour " + no, Checks.INDEX, () -> x.net(0, no));
            CHECKS.dueThrow("flow of hour " + no, Checks.INDEX, () -> x.flow(0, no));
        }
    }
}
