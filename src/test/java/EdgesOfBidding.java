/** The edges of promises 1 to 8: a new object, deposit, setLimit, bid, block, link, ask, clear. */
final class EdgesOfBidding {
    private static final String NO_FIRM = "Throws `IndexOutOfBoundsException` if there is no such firm";
    private final Edges edges;

    EdgesOfBidding(Edges edges) {
        this.edges = edges;
    }

    void check() {
        newObject();
        deposit();
        mostDeposits();
        setLimit();
        bid();
        fullBids();
        block();
        fullBlocks();
        link();
        ask();
        fullAsks();
        clear();
    }

    private void newObject() {
        edges.promise(1, "Makes a market on day 0, open for bids.");
        GridMarket x = Markets.fresh();
        edges.due("day", x.day(), 0);
        edges.due("phase", x.phase(), GridMarket.BIDS);
        edges.due("house", x.house(), 0);
        for (int firm = 0; firm < 6; firm++) {
            edges.due("account", x.account(firm), 0);
            edges.due("hasFailed", x.hasFailed(firm), false);
        }
        firstCalls();
        firstQuestions();
    }

    private void firstCalls() {
        edges.due("first deposit", Markets.fresh().deposit(5, 1), 1);
        edges.due("first setLimit", Markets.fresh().setLimit(2, 0), 5);
        edges.due("first bid", Markets.fresh().bid(5, 2, 3, true, 200, 10), 0);
        edges.due("first block", Markets.fresh().block(5, 2, 15, true, 200, 10), 0);
        edges.due("first ask", Markets.fresh().ask(5, 2, 0, 10, 500), 0);
        edges.due("first aid", Markets.fresh().aid(5, 3, true, 300, 10), 0);
        edges.due("first clear", Markets.fresh().clear(), 0);
        edges.refused("first link", Checks.INDEX, Markets::fresh, x -> x.link(0, GridMarket.NONE, GridMarket.NONE));
        edges.refused("first offer", Checks.STATE, Markets::fresh, x -> x.offer(0, 0, 0, true, 1, 1));
        edges.refused("first takeBack", Checks.INDEX, Markets::fresh, x -> x.takeBack(0));
        edges.refused("first close", Checks.STATE, Markets::fresh, GridMarket::close);
        edges.refused("first read", Checks.INDEX, Markets::fresh, x -> x.read(0, 0, 0, 0, 0));
        edges.refused("first run", Checks.INDEX, Markets::fresh, x -> x.run(0));
    }

    private void firstQuestions() {
        edges.refused("price", Checks.STATE, Markets::fresh, x -> x.price(0, 0));
        edges.refused("net", Checks.STATE, Markets::fresh, x -> x.net(0, 0));
        edges.refused("flow", Checks.STATE, Markets::fresh, x -> x.flow(0, 0));
        edges.refused("taken", Checks.INDEX, Markets::fresh, x -> x.taken(0));
        edges.refused("isTaken", Checks.INDEX, Markets::fresh, x -> x.isTaken(0));
        edges.refused("gain", Checks.INDEX, Markets::fresh, x -> x.gain(0));
        edges.refused("worthAnew", Checks.STATE, Markets::fresh, GridMarket::worthAnew);
        edges.refused("given", Checks.INDEX, Markets::fresh, x -> x.given(0));
        edges.refused("left", Checks.INDEX, Markets::fresh, x -> x.left(0));
        edges.due("plan", Markets.fresh().plan(0, 5, 2, 3), 0);
        edges.refused("gap", Checks.INDEX, Markets::fresh, x -> x.gap(0, 0));
        edges.refused("gapPrice", Checks.INDEX, Markets::fresh, x -> x.gapPrice(0, 0));
        edges.refused("bill", Checks.INDEX, Markets::fresh, x -> x.bill(0, 0));
        edges.refused("settled", Checks.INDEX, Markets::fresh, x -> x.settled(0, 0));
    }

    private void deposit() {
        new CallEdges(edges, 2, Markets::fresh, (x, a) -> x.deposit(a[0], a[1]), 0, 7)
            .index(0, "- `firm`: 0 to 5", 0, 5)
            .range(1, "- `amount`: 1 to 100000", 1, 100000)
            .refusedIn("it has failed", Markets::failed)
            .refusedIn("it has deposited 10000000", () -> Markets.deposited(100), 0, 1)
            .check(NO_FIRM, "Throws `IllegalArgumentException` if amount is out of range",
                "Throws `IllegalStateException` if it has failed, or has deposited more than 10000000 then");
        edges.promise(2, "Deposits money to the account of a firm.");
        GridMarket x = Markets.fresh();
        edges.promise(2, "Returns its account then.");
        edges.due("least amount", x.deposit(5, 1), 1);
        edges.due("greatest amount", x.deposit(5, 100000), 100001);
        edges.due("first amount of another firm", x.deposit(0, 100000), 100000);
        edges.due("account", x.account(5), 100001);
        edges.due("account without a deposit", x.account(1), 0);
        x.clear();
        edges.due("deposit while open for offers", x.deposit(5, 1), 100002);
        x.close();
        edges.due("deposit on the next day", x.deposit(5, 1), 100003);
        edges.due("house", x.house(), 0);
        GridMarket y = Markets.sold();
        y.run(0);
        edges.due("account by a run and a deposit", y.deposit(0, 1), 51);
        GridMarket z = Markets.failed();
        edges.due("a firm that has not failed", z.deposit(1, 1), 51);
    }

    private void mostDeposits() {
        edges.promise(2, "or has deposited more than 10000000 then");
        GridMarket x = Markets.deposited(99);
        edges.due("up to 10000000 in one step", x.deposit(0, 100000), 10000000);
        edges.dueThrow("one more", Checks.STATE, () -> x.deposit(0, 1));
        edges.due("another firm", x.deposit(1, 100000), 100000);
        GridMarket y = Markets.deposited(99);
        edges.due("one below", y.deposit(0, 99999), 9999999);
        edges.dueThrow("two at once", Checks.STATE, () -> y.deposit(0, 2));
        edges.dueThrow("the greatest amount", Checks.STATE, () -> y.deposit(0, 100000));
        edges.due("what was refused does not count", y.deposit(0, 1), 10000000);
        edges.dueThrow("one more", Checks.STATE, () -> y.deposit(0, 1));
        edges.refused("up to 10000001 in one step", Checks.STATE, () -> oneBelowTheMost(), z -> z.deposit(0, 2));
        whatCountsIsDeposits();
    }

    private static GridMarket oneBelowTheMost() {
        GridMarket x = Markets.deposited(99);
        x.deposit(0, 99999);
        return x;
    }

    private void whatCountsIsDeposits() {
        GridMarket x = oneBelowTheMost();
        x.bid(0, 0, 0, false, 10, 9);
        x.bid(1, 0, 0, true, 30, 5);
        x.deposit(1, 50);
        Markets.endDay(x);
        x.run(0);
        edges.due("account above it by what was earned", x.account(0), 10000049);
        edges.due("deposit though the account is above it", x.deposit(0, 1), 10000050);
        GridMarket y = Markets.deposited(100);
        y.bid(0, 0, 0, true, 30, 5);
        y.bid(1, 0, 0, false, 10, 9);
        Markets.endDay(y);
        y.run(0);
        edges.due("account below it by what was paid", y.account(0), 9999950);
        edges.dueThrow("deposit though the account is below it", Checks.STATE, () -> y.deposit(0, 1));
    }

    private void setLimit() {
        new CallEdges(edges, 3, Markets::fresh, (x, a) -> x.setLimit(a[0], a[1]), 1, 6)
            .index(0, "- `line`: 0 to 2", 0, 2)
            .range(1, "- `limit`: 0 to 10", 0, 10)
            .refusedIn("open for offers", Markets::cleared)
            .refusedIn("open for offers on day 9", Markets::dayNineCleared)
            .check("Throws `IndexOutOfBoundsException` if there is no such line",
                "Throws `IllegalArgumentException` if limit is out of range",
                "Throws `IllegalStateException` if the day is not open for bids");
        edges.promise(3, "Sets the limit of a line.");
        edges.promise(3, "Returns the limit before.");
        for (int line = 0; line < 3; line++) {
            GridMarket x = Markets.fresh();
            edges.due("first limit", x.setLimit(line, 0), 5);
            edges.due("least limit before", x.setLimit(line, 10), 0);
            edges.due("greatest limit before", x.setLimit(line, 10), 10);
            edges.due("another line", x.setLimit((line + 1) % 3, 4), 5);
            edges.due("the third line", x.setLimit((line + 2) % 3, 4), 5);
            Markets.endDay(x);
            edges.due("limit of the day before", x.setLimit(line, 1), 10);
        }
    }

    private void bid() {
        new CallEdges(edges, 4, Markets::fresh, (x, a) -> x.bid(a[0], a[1], a[2], a[5] == 1, a[3], a[4]), 0, 1, 2, 40, 5, 1)
            .index(0, "- `firm`: 0 to 5", 0, 5)
            .index(1, "- `zone`: 0 to 2", 0, 2)
            .index(2, "- `hour`: 0 to 3", 0, 3)
            .range(3, "- `price`: 0 to 200", 0, 200)
            .range(4, "- `units`: 1 to 10", 1, 10)
            .refusedIn("failed", Markets::failed)
            .refusedIn("open for offers", Markets::cleared)
            .refusedIn("there are 40", () -> Markets.bids(40))
            .check("Throws `IndexOutOfBoundsException` if there is no such firm, zone or hour",
                "Throws `IllegalArgumentException` if price or units is out of range",
                "Throws `IllegalStateException` if the firm has failed, the day is not open for bids, or there are 40");
        edges.promise(4, "Bids.");
        edges.promise(4, "- `isBuy`: whether to buy");
        GridMarket x = Markets.fresh();
        x.bid(0, 0, 0, false, 0, 10);
        x.bid(1, 0, 0, true, 200, 10);
        edges.due("all is sold at the least price and bought at the greatest", x.clear(), 2000);
        edges.due("plan of who sells", x.plan(0, 0, 0, 0), 10);
        edges.due("plan of who buys", x.plan(0, 1, 0, 0), -10);
    }

    private void fullBids() {
        edges.promise(4, "Returns the number of the bid in this day.");
        GridMarket x = Markets.fresh();
        for (int n = 0; n < 40; n++) {
            edges.due("bid", x.bid(n % 6, n % 3, n % 4, true, 7, 1), n);
        }
        edges.dueThrow("the 41st bid", Checks.STATE, () -> x.bid(0, 0, 0, true, 7, 1));
        edges.due("a block is no bid", x.block(0, 0, 1, true, 7, 1), 0);
        edges.due("an ask is no bid", x.ask(0, 0, 1, 1, 7), 0);
        Markets.endDay(x);
        edges.due("first bid of the next day", x.bid(0, 0, 0, true, 7, 1), 0);
        edges.due("second bid of the next day", x.bid(0, 0, 0, true, 7, 1), 1);
    }

    private void block() {
        new CallEdges(edges, 5, Markets::fresh, (x, a) -> x.block(a[0], a[1], a[2], a[5] == 1, a[3], a[4]), 0, 1, 5, 40, 5, 1)
            .index(0, "- `firm`: 0 to 5", 0, 5)
            .index(1, "- `zone`: 0 to 2", 0, 2)
            .range(2, "- `hours`: 1 to 15: the set of hours, hour h counting 2 to the power of h", 1, 15)
            .range(3, "- `price`: 0 to 200", 0, 200)
            .range(4, "- `units`: 1 to 10", 1, 10)
            .refusedIn("failed", Markets::failed)
            .refusedIn("open for offers", Markets::cleared)
            .refusedIn("there are 5", () -> Markets.blocks(5))
            .check("Throws `IndexOutOfBoundsException` if there is no such firm or zone",
                "Throws `IllegalArgumentException` if hours, price or units is out of range",
                "Throws `IllegalStateException` if the firm has failed, the day is not open for bids, or there are 5");
        edges.promise(5, "Bids a block.");
        edges.promise(5, "- `hours`: 1 to 15: the set of hours, hour h counting 2 to the power of h");
        for (int hours = 1; hours <= 15; hours++) {
            blockIn(hours);
        }
        edges.promise(5, "- `isBuy`: whether to buy");
        GridMarket x = Markets.fresh();
        x.block(0, 0, 1, false, 0, 10);
        x.block(1, 0, 1, true, 200, 10);
        edges.due("all is sold at the least price and bought at the greatest", x.clear(), 2000);
        edges.due("plan of who sells", x.plan(0, 0, 0, 0), 10);
        edges.due("plan of who buys", x.plan(0, 1, 0, 0), -10);
    }

    private void blockIn(int hours) {
        GridMarket x = Markets.fresh();
        for (int hour = 0; hour < 4; hour++) {
            x.bid(1, 2, hour, false, 1, 10);
        }
        x.block(0, 2, hours, true, 2, 10);
        edges.due("worth in hours " + hours, x.clear(), 10 * Integer.bitCount(hours));
        for (int hour = 0; hour < 4; hour++) {
            edges.due("plan of hours " + hours + " in hour " + hour, x.plan(0, 0, 2, hour), -10 * (hours >> hour & 1));
        }
    }

    private void fullBlocks() {
        edges.promise(5, "Returns the number of the block in this day.");
        GridMarket x = Markets.fresh();
        for (int n = 0; n < 5; n++) {
            edges.due("block", x.block(n, n % 3, n + 1, true, 7, 1), n);
        }
        edges.dueThrow("the 6th block", Checks.STATE, () -> x.block(0, 0, 1, true, 7, 1));
        edges.due("a bid is no block", x.bid(0, 0, 0, true, 7, 1), 0);
        Markets.endDay(x);
        edges.due("first block of the next day", x.block(0, 0, 1, true, 7, 1), 0);
        edges.due("second block of the next day", x.block(0, 0, 1, true, 7, 1), 1);
    }

    private void link() {
        String argument = "Throws `IllegalArgumentException` if to is neither a lower number of a block nor NONE, or group is out of range";
        int none = GridMarket.NONE;
        new CallEdges(edges, 6, () -> Markets.blocks(3), (x, a) -> x.link(a[0], a[1], a[2]), 2, 0, 1)
            .index(0, "- `block`: its number", 0, 2, 2, none, 1)
            .range(1, "- `to`: a block of a lower number; NONE for none", none, 1)
            .range(2, "- `group`: 0 to 2; NONE for none", none, 2)
            .refusedIn("open for offers", Markets::blocksCleared)
            .check("Throws `IndexOutOfBoundsException` if there is no such block", argument,
                "Throws `IllegalStateException` if the day is not open for bids");
        edges.promise(6, "- `to`: a block of a lower number; NONE for none");
        edges.harmless("block 0 to none, in no group", () -> Markets.blocks(3), x -> x.link(0, none, none));
        edges.refused("block 0 to itself", Checks.ARGUMENT, () -> Markets.blocks(3), x -> x.link(0, 0, none));
        edges.refused("block 1 to itself", Checks.ARGUMENT, () -> Markets.blocks(3), x -> x.link(1, 1, none));
        edges.refused("block 1 to a later one", Checks.ARGUMENT, () -> Markets.blocks(3), x -> x.link(1, 2, none));
        edges.refused("block 2 to none there", Checks.ARGUMENT, () -> Markets.blocks(3), x -> x.link(2, 3, none));
        edges.taken("block 4 to 3, both the last", () -> Markets.blocks(5).link(4, 3, 2));
        edges.refused("the greatest block to itself", Checks.ARGUMENT, () -> Markets.blocks(5), x -> x.link(4, 4, 2));
        edges.refused("to and group wrong", Checks.ARGUMENT, () -> Markets.blocks(3), x -> x.link(2, 2, 3));
        edges.promise(6, "- `block`: its number");
        edges.refused("no blocks at all", Checks.INDEX, Markets::fresh, x -> x.link(0, none, none));
        edges.refused("the sixth of five", Checks.INDEX, () -> Markets.blocks(5), x -> x.link(5, 0, 0));
        GridMarket yesterday = Markets.blocksCleared();
        yesterday.close();
        edges.dueThrow("a block of the day before", Checks.INDEX, () -> yesterday.link(0, none, none));
        linkAnew();
    }

    private void linkAnew() {
        edges.promise(6, "Links a block to an earlier one, and puts it into a group.");
        int none = GridMarket.NONE;
        GridMarket x = Markets.blocks(2);
        x.link(1, 0, none);
        x.link(1, none, none);
        x.link(0, none, 2);
        x.link(1, none, 2);
        x.link(1, none, none);
        edges.due("what was linked and taken out again is free", x.clear(), 6 * 60 - 3 * 10 - 3 * 11);
        GridMarket y = Markets.blocks(2);
        y.link(0, none, 2);
        y.link(1, none, 2);
        edges.due("the greatest group", y.clear(), 3 * 60 - 3 * 10);
        edges.due("the worse one of the group", y.isTaken(1), false);
    }

    private void ask() {
        new CallEdges(edges, 7, Markets::fresh, (x, a) -> x.ask(a[0], a[1], a[2], a[3], a[4]), 0, 2, 1, 5, 40)
            .index(0, "- `firm`: 0 to 5", 0, 5)
            .index(1, "- `from`: a zone, 0 to 2", 0, 2)
            .index(2, "- `to`: another zone", 0, 2, 0, 1, 0, 5, 40)
            .range(3, "- `units`: 1 to 10", 1, 10)
            .range(4, "- `price`: 0 to 500", 0, 500)
            .refusedIn("failed", Markets::failed)
            .refusedIn("open for offers", Markets::cleared)
            .refusedIn("there are 20", () -> Markets.asks(20))
            .check("Throws `IndexOutOfBoundsException` if there is no such firm or zone",
                "Throws `IllegalArgumentException` if both zones are the same, or units or price is out of range",
                "Throws `IllegalStateException` if the firm has failed, the day is not open for bids, or there are 20");
        for (int zone = 0; zone < 3; zone++) {
            sameZone(zone);
        }
    }

    private void sameZone(int zone) {
        edges.refused("both zones " + zone, Checks.ARGUMENT, Markets::fresh, x -> x.ask(0, zone, zone, 1, 1));
        edges.refused("both zones, units and price wrong", Checks.ARGUMENT, Markets::fresh, x -> x.ask(0, zone, zone, 0, 501));
        edges.refused("both zones, open for offers", Checks.ARGUMENT, Markets::cleared, x -> x.ask(0, zone, zone, 1, 1));
        edges.refused("both zones, failed", Checks.ARGUMENT, Markets::failed, x -> x.ask(0, zone, zone, 1, 1));
        edges.refused("both zones, there are 20", Checks.ARGUMENT, () -> Markets.asks(20), x -> x.ask(0, zone, zone, 1, 1));
        edges.refused("both zones, no such firm", Checks.INDEX, Markets::fresh, x -> x.ask(6, zone, zone, 1, 1));
        edges.refused("the same zone that is not there", Checks.INDEX, Markets::fresh, x -> x.ask(0, 3, 3, 1, 1));
        edges.refused("the same zone below 0", Checks.INDEX, Markets::fresh, x -> x.ask(0, -1, -1, 1, 1));
    }

    private void fullAsks() {
        edges.promise(7, "Asks for rights.");
        edges.promise(7, "Returns the number of the ask in this day.");
        GridMarket x = Markets.fresh();
        for (int n = 0; n < 20; n++) {
            edges.due("ask", x.ask(n % 6, n % 3, (n + 1) % 3, 1, 7), n);
        }
        edges.dueThrow("the 21st ask", Checks.STATE, () -> x.ask(0, 0, 1, 1, 7));
        edges.due("a bid is no ask", x.bid(0, 0, 0, true, 7, 1), 0);
        Markets.endDay(x);
        edges.due("first ask of the next day", x.ask(0, 0, 1, 1, 7), 0);
        edges.due("second ask of the next day", x.ask(0, 0, 1, 1, 7), 1);
    }

    private void clear() {
        edges.promise(8, "Throws `IllegalStateException` if it is not open for bids");
        edges.refused("twice", Checks.STATE, Markets::cleared, GridMarket::clear);
        edges.refused("twice, with bids", Checks.STATE, Markets::dayTwo, GridMarket::clear);
        edges.refused("twice, with offers", Checks.STATE, Markets::fourOffers, GridMarket::clear);
        edges.refused("twice on day 9", Checks.STATE, Markets::dayNineCleared, GridMarket::clear);
        edges.promise(8, "Returns the worth of what is taken.");
        edges.due("nothing", Markets.fresh().clear(), 0);
        edges.due("nothing on day 9", Markets.dayNine().clear(), 0);
        edges.due("bids", Markets.toBeSold().clear(), 100);
        edges.due("only to sell", onlyOneSide(false).clear(), 0);
        edges.due("only to buy", onlyOneSide(true).clear(), 0);
        edges.promise(8, "Clears the day, which is open for offers then.");
        GridMarket x = Markets.fresh();
        edges.due("phase ahead", x.phase(), GridMarket.BIDS);
        x.clear();
        edges.due("phase then", x.phase(), GridMarket.OFFERS);
        edges.due("day then", x.day(), 0);
        edges.due("an offer then", x.offer(0, 0, 0, true, 1, 1), 0);
    }

    private static GridMarket onlyOneSide(boolean isBuy) {
        GridMarket x = new GridMarket();
        x.bid(0, 0, 0, isBuy, 100, 10);
        x.block(0, 0, 15, isBuy, 100, 10);
        return x;
    }
}
