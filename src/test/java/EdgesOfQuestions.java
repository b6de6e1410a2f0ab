/** The edges of promises 15 to 33: what is asked of today, of days and of firms. */
final class EdgesOfQuestions {
    private static final String NOT_CLEARED = "Throws `IllegalStateException` if the day is not cleared";
    private final Edges edges;

    EdgesOfQuestions(Edges edges) {
        this.edges = edges;
    }

    void check() {
        dayAndPhase();
        price();
        net();
        flow();
        taken();
        isTaken();
        gain();
        worthAnew();
        given();
        left();
        plan();
        gap();
        gapPrice();
        bill();
        settled();
        account();
        hasFailed();
        house();
    }

    private void dayAndPhase() {
        edges.promise(15, "Returns the day.");
        edges.due("on a new object", Markets.fresh().day(), 0);
        edges.due("cleared", Markets.cleared().day(), 0);
        edges.due("behind the first close", Markets.nextDay().day(), 1);
        edges.due("the last day", Markets.dayNine().day(), 9);
        edges.due("the last day, cleared", Markets.dayNineCleared().day(), 9);
        edges.promise(16, "Returns what the day is: BIDS or OFFERS.");
        edges.due("on a new object", Markets.fresh().phase(), 0);
        edges.due("cleared", Markets.cleared().phase(), 1);
        edges.due("behind the first close", Markets.nextDay().phase(), 0);
        edges.due("the last day", Markets.dayNine().phase(), 0);
        edges.due("the last day, cleared", Markets.dayNineCleared().phase(), 1);
    }

    private void price() {
        new CallEdges(edges, 17, Markets::dayTwo, (x, a) -> x.price(a[0], a[1]), 1, 2)
            .index(0, "- `zone`: 0 to 2", 0, 2)
            .index(1, "- `hour`: 0 to 3", 0, 3)
            .refusedIn("a new object", Markets::fresh)
            .refusedIn("bids are there", Markets::toBeSold)
            .refusedIn("the next day", Markets::sold)
            .refusedIn("day 9", Markets::dayNine)
            .check("Throws `IndexOutOfBoundsException` if there is no such zone or hour", null, NOT_CLEARED);
        edges.promise(17, "Returns the price of a zone.");
        edges.promise(17, "Returns the price.");
        GridMarket x = Markets.toBeSold();
        x.clear();
        for (int zone = 0; zone < 3; zone++) {
            edges.due("by trade", x.price(zone, 0), 10);
            edges.due("without bids", x.price(zone, 3), 0);
        }
        edges.due("of an empty day", Markets.cleared().price(0, 0), 0);
        GridMarket y = Markets.fresh();
        y.bid(0, 2, 3, true, 200, 10);
        y.clear();
        edges.due("the greatest price of a bid", y.price(2, 3), 200);
        GridMarket z = Markets.toBeSold();
        z.clear();
        z.offer(2, 0, 0, false, 99, 1);
        z.offer(3, 0, 0, true, 99, 1);
        edges.due("offers change no price", z.price(0, 0), 10);
        z.close();
        z.clear();
        edges.due("the next day's, cleared with nothing", z.price(0, 0), 0);
    }

    private void net() {
        new CallEdges(edges, 18, Markets::dayTwo, (x, a) -> x.net(a[0], a[1]), 1, 2)
            .index(0, "- `zone`: 0 to 2", 0, 2)
            .index(1, "- `hour`: 0 to 3", 0, 3)
            .refusedIn("a new object", Markets::fresh)
            .refusedIn("the next day", Markets::sold)
            .check("Throws `IndexOutOfBoundsException` if there is no such zone or hour", null, NOT_CLEARED);
        edges.promise(18, "Returns the net of a zone, by clearing and offers.");
        edges.promise(18, "Returns the net.");
        GridMarket x = Markets.limits(10, 10, 10);
        for (int n = 0; n < 3; n++) {
            x.bid(0, 0, 0, false, 10, 10);
            x.bid(1, 1, 0, true, 50, 10);
            x.bid(1, 2, 0, true, 50, 10);
            x.bid(0, 2, 3, false, 10, 10);
            x.bid(1, 1, 3, true, 50, 10);
            x.bid(1, 0, 3, true, 50, 10);
        }
        x.clear();
        edges.due("the greatest net", x.net(0, 0), 20);
        edges.due("it goes to both other zones", x.net(1, 0), -10);
        edges.due("it goes to both other zones", x.net(2, 0), -10);
        edges.due("the greatest net of zone 2", x.net(2, 3), 20);
        edges.due("without bids", x.net(0, 1), 0);
        GridMarket y = Markets.limits(10, 10, 10);
        for (int n = 0; n < 3; n++) {
            y.bid(0, 1, 2, true, 50, 10);
            y.bid(1, 0, 2, false, 10, 10);
            y.bid(1, 2, 2, false, 10, 10);
        }
        y.clear();
        edges.due("the least net", y.net(1, 2), -20);
        netByOffers();
    }

    private void netByOffers() {
        GridMarket x = Markets.limits(10, 10, 10);
        x.bid(0, 0, 0, false, 10, 10);
        x.bid(1, 1, 0, true, 50, 10);
        x.clear();
        edges.due("by clearing", x.net(0, 0), 10);
        x.offer(2, 0, 0, false, 10, 10);
        x.offer(3, 1, 0, true, 10, 10);
        edges.due("by clearing and offers, as far as line 0 lets", x.net(0, 0), 15);
        edges.due("of who buys", x.net(1, 0), -15);
        x.offer(4, 2, 0, true, 10, 5);
        edges.due("line 0 is full: nothing more to zone 2", x.net(0, 0), 15);
        x.offer(4, 1, 0, false, 10, 5);
        edges.due("sold where it is bought: the net stays", x.net(1, 0), -15);
        x.close();
        x.clear();
        edges.due("of the next day", x.net(0, 0), 0);
    }

    private void flow() {
        new CallEdges(edges, 19, Markets::dayTwo, (x, a) -> x.flow(a[0], a[1]), 1, 2)
            .index(0, "- `line`: 0 to 2", 0, 2)
            .index(1, "- `hour`: 0 to 3", 0, 3)
            .refusedIn("a new object", Markets::fresh)
            .refusedIn("the next day", Markets::sold)
            .check("Throws `IndexOutOfBoundsException` if there is no such line or hour", null, NOT_CLEARED);
        edges.promise(19, "Returns what goes on a line, in thirds of a unit.");
        edges.promise(19, "Returns what goes, below 0 the other way.");
        int[] begins = {0, 1, 0};
        int[] ends = {1, 2, 2};
        for (int line = 0; line < 3; line++) {
            edges.due("nothing", Markets.cleared().flow(line, 0), 0);
            edges.due("the most, by clearing", fullByBids(begins[line], ends[line]).flow(line, 1), 30);
            edges.due("the most the other way, by clearing", fullByBids(ends[line], begins[line]).flow(line, 1), -30);
            edges.due("the most, by offers", fullByOffers(begins[line], ends[line]).flow(line, 1), 30);
            edges.due("the most the other way, by offers", fullByOffers(ends[line], begins[line]).flow(line, 1), -30);
        }
        GridMarket x = fullByBids(0, 1);
        edges.due("half of it on line 1, the other way", x.flow(1, 1), -15);
        edges.due("half of it on line 2", x.flow(2, 1), 15);
        edges.due("in another hour", x.flow(0, 0), 0);
    }

    private static GridMarket fullByBids(int from, int to) {
        GridMarket x = Markets.limits(10, 10, 10);
        for (int n = 0; n < 2; n++) {
            x.bid(0, from, 1, false, 10, 10);
            x.bid(1, to, 1, true, 50, 10);
        }
        x.clear();
        return x;
    }

    private static GridMarket fullByOffers(int from, int to) {
        GridMarket x = Markets.limits(10, 10, 10);
        x.clear();
        for (int n = 0; n < 2; n++) {
            x.offer(0, from, 1, false, 10, 10);
            x.offer(1, to, 1, true, 50, 10);
        }
        return x;
    }

    private static GridMarket bidsCleared() {
        GridMarket x = Markets.bids(40);
        x.clear();
        return x;
    }

    private void taken() {
        new CallEdges(edges, 20, EdgesOfQuestions::bidsCleared, (x, a) -> x.taken(a[0]), 1)
            .index(0, "- `bid`: its number in this day", 0, 39)
            .refusedIn("bids are there", () -> Markets.bids(40))
            .check("Throws `IndexOutOfBoundsException` if there is no such bid", null, NOT_CLEARED);
        edges.promise(20, "Throws `IndexOutOfBoundsException` if there is no such bid");
        edges.refused("a new object", Checks.INDEX, Markets::fresh, x -> x.taken(0));
        edges.refused("cleared with none", Checks.INDEX, Markets::cleared, x -> x.taken(0));
        edges.refused("of the day before", Checks.INDEX, Markets::sold, x -> x.taken(0));
        edges.refused("one too many", Checks.INDEX, Markets::toBeSold, x -> x.taken(2));
        edges.promise(20, "Returns how many units of a bid are taken.");
        edges.promise(20, "Returns how many.");
        GridMarket x = Markets.toBeSold();
        x.bid(2, 0, 0, true, 9, 10);
        x.bid(3, 0, 0, true, 11, 4);
        x.bid(4, 0, 0, true, 10, 1);
        x.clear();
        edges.due("all of the one to sell", x.taken(0), 9);
        edges.due("all of the one to buy", x.taken(1), 5);
        edges.due("none below the price", x.taken(2), 0);
        edges.due("all above the price", x.taken(3), 4);
        edges.due("none when all is sold", x.taken(4), 0);
        x.offer(1, 0, 0, false, 1, 5);
        x.offer(2, 0, 0, true, 1, 5);
        edges.due("offers change nothing of it", x.taken(1), 5);
    }

    private void isTaken() {
        new CallEdges(edges, 21, Markets::blocksCleared, (x, a) -> edges.due("it tells", x.isTaken(a[0]), true), 1)
            .index(0, "- `block`: its number in this day", 0, 2)
            .refusedIn("blocks are there", () -> Markets.blocks(3))
            .check("Throws `IndexOutOfBoundsException` if there is no such block", null, NOT_CLEARED);
        edges.promise(21, "Throws `IndexOutOfBoundsException` if there is no such block");
        edges.refused("a new object", Checks.INDEX, Markets::fresh, x -> x.isTaken(0));
        edges.refused("cleared with none", Checks.INDEX, Markets::cleared, x -> x.isTaken(0));
        edges.promise(21, "Tells whether a block is taken.");
        edges.promise(21, "Returns whether it is.");
        GridMarket x = Markets.blocks(4);
        x.block(5, 0, 1, false, 50, 10);
        x.clear();
        edges.due("the last one, that would make too much", x.isTaken(4), false);
        edges.due("the one ahead of it", x.isTaken(3), true);
        x.close();
        edges.dueThrow("of the day before", Checks.INDEX, () -> x.isTaken(0));
        x.clear();
        edges.dueThrow("of the day before, cleared", Checks.INDEX, () -> x.isTaken(0));
    }

    private void gain() {
        new CallEdges(edges, 22, Markets::blocksCleared, (x, a) -> x.gain(a[0]), 1)
            .index(0, "- `block`: its number in this day", 0, 2)
            .refusedIn("blocks are there", () -> Markets.blocks(3))
            .check("Throws `IndexOutOfBoundsException` if there is no such block", null, NOT_CLEARED);
        edges.promise(22, "Returns what a block gains, or would gain, for each unit, by the prices: those of its hours, "
            + "less its price for each, or the other way round if it buys.");
        edges.promise(22, "Returns the gain, below 0 for a loss.");
        GridMarket x = Markets.fresh();
        for (int hour = 0; hour < 3; hour++) {
            x.bid(0, 0, hour, false, 10 * (1 + hour), 10);
        }
        x.block(1, 0, 7, true, 20, 1);
        x.block(2, 0, 7, true, 21, 1);
        x.block(3, 0, 7, true, 19, 1);
        x.block(4, 0, 15, true, 20, 1);
        x.block(5, 0, 1, true, 0, 10);
        x.clear();
        edges.due("neither a gain nor a loss", x.gain(0), 0);
        edges.due("a gain in three hours", x.gain(1), 3);
        edges.due("it would lose", x.gain(2), -3);
        edges.due("an hour without a price", x.gain(3), 4 * 20 - 60);
        edges.due("one hour, the least price", x.gain(4), -10);
        GridMarket y = Markets.toBeSold();
        y.block(0, 0, 3, false, 5, 1);
        y.block(0, 0, 1, false, 10, 2);
        y.block(0, 0, 1, false, 200, 3);
        y.clear();
        edges.due("sells at 10 and at nothing, for 5 each", y.gain(0), 0);
        edges.due("sells at its own price", y.gain(1), 0);
        edges.due("would sell for 190 too much", y.gain(2), -190);
    }

    private void worthAnew() {
        edges.promise(23, NOT_CLEARED);
        edges.refused("a new object", Checks.STATE, Markets::fresh, GridMarket::worthAnew);
        edges.refused("bids are there", Checks.STATE, Markets::toBeSold, GridMarket::worthAnew);
        edges.refused("the next day", Checks.STATE, Markets::sold, GridMarket::worthAnew);
        edges.refused("day 9", Checks.STATE, Markets::dayNine, GridMarket::worthAnew);
        edges.promise(23, "Returns the worth of what is taken, from the bids and blocks that are.");
        edges.promise(23, "Returns the worth.");
        edges.due("nothing", Markets.cleared().worthAnew(), 0);
        for (int count : new int[] {1, 5}) {
            GridMarket x = Markets.blocks(count);
            edges.due("with blocks: as clear() answered", x.clear(), x.worthAnew());
        }
        GridMarket y = Markets.bids(40);
        int worth = y.clear();
        edges.due("with 40 bids: as clear() answered", y.worthAnew(), worth);
        y.offer(0, 0, 0, false, 0, 10);
        y.offer(1, 0, 0, true, 300, 10);
        edges.due("offers are no bids", y.worthAnew(), worth);
    }

    private void given() {
        new CallEdges(edges, 24, Markets::asksCleared, (x, a) -> x.given(a[0]), 1)
            .index(0, "- `ask`: its number in this day", 0, 2)
            .refusedIn("asks are there", () -> Markets.asks(3))
            .check("Throws `IndexOutOfBoundsException` if there is no such ask", null, NOT_CLEARED);
        edges.promise(24, "Throws `IndexOutOfBoundsException` if there is no such ask");
        edges.refused("a new object", Checks.INDEX, Markets::fresh, x -> x.given(0));
        edges.refused("cleared with none", Checks.INDEX, Markets::cleared, x -> x.given(0));
        GridMarket yesterday = Markets.asksCleared();
        yesterday.close();
        edges.dueThrow("of the day before", Checks.INDEX, () -> yesterday.given(0));
        edges.promise(24, "Returns how many units of rights an ask was given.");
        edges.promise(24, "Returns how many.");
        GridMarket x = Markets.limits(10, 0, 1);
        x.ask(0, 0, 1, 10, 0);
        x.ask(0, 1, 2, 1, 500);
        x.ask(0, 0, 2, 2, 500);
        x.clear();
        edges.due("as many as the limit", x.given(0), 10);
        edges.due("none by the limit 0", x.given(1), 0);
        edges.due("a part", x.given(2), 1);
    }

    private void left() {
        new CallEdges(edges, 25, () -> Markets.offers(60), (x, a) -> x.left(a[0]), 1)
            .index(0, "- `offer`: its number in this day", 0, 59)
            .check("Throws `IndexOutOfBoundsException` if there is no such offer", null, null);
        edges.refused("a new object", Checks.INDEX, Markets::fresh, x -> x.left(0));
        edges.refused("cleared with none", Checks.INDEX, Markets::cleared, x -> x.left(0));
        edges.refused("one too many", Checks.INDEX, Markets::fourOffers, x -> x.left(4));
        GridMarket yesterday = Markets.fourOffers();
        yesterday.close();
        edges.dueThrow("of the day before", Checks.INDEX, () -> yesterday.left(0));
        edges.promise(25, "Returns what is left of an offer.");
        edges.promise(25, "Returns what is left; 0 if it was taken back.");
        GridMarket x = Markets.fourOffers();
        edges.due("all", x.left(0), 5);
        edges.due("nothing of the one that rested", x.left(1), 0);
        edges.due("nothing of the one that came", x.left(2), 0);
        edges.due("it was taken back", x.left(3), 0);
        x.offer(4, 0, 0, true, 30, 4);
        edges.due("one unit", x.left(0), 1);
        x.offer(4, 0, 0, true, 30, 1);
        edges.due("the last unit is sold", x.left(0), 0);
    }

    private void plan() {
        new CallEdges(edges, 26, Markets::dayTwo, (x, a) -> x.plan(a[0], a[1], a[2], a[3]), 0, 1, 1, 2)
            .index(0, "- `day`: a closed day, or today", 0, 2)
            .index(1, "- `firm`: 0 to 5", 0, 5)
            .index(2, "- `zone`: 0 to 2", 0, 2)
            .index(3, "- `hour`: 0 to 3", 0, 3)
            .check("Throws `IndexOutOfBoundsException` if there is no such day, firm, zone or hour", null, null);
        edges.refused("day 1 on day 0", Checks.INDEX, Markets::fresh, x -> x.plan(1, 0, 0, 0));
        edges.refused("day 10 on day 9", Checks.INDEX, Markets::dayNineCleared, x -> x.plan(10, 0, 0, 0));
        edges.promise(26, "Returns the plan of a firm.");
        edges.promise(26, "Returns the plan; 0 as long as the day is not cleared.");
        edges.due("day 9 on day 9", Markets.dayNineCleared().plan(9, 5, 2, 3), 0);
        GridMarket x = Markets.toBeSold();
        edges.due("ahead of the clearing", x.plan(0, 0, 0, 0), 0);
        x.clear();
        edges.due("behind the clearing", x.plan(0, 0, 0, 0), 5);
        edges.due("of who buys", x.plan(0, 1, 0, 0), -5);
        x.close();
        edges.due("of a closed day", x.plan(0, 0, 0, 0), 5);
        edges.due("of today, open for bids", x.plan(1, 0, 0, 0), 0);
        x.read(0, 0, 0, 0, 3);
        edges.due("behind a reading", x.plan(0, 0, 0, 0), 5);
    }

    private void gap() {
        new CallEdges(edges, 27, Markets::dayTwo, (x, a) -> x.gap(a[0], a[1]), 0, 2)
            .index(0, "- `day`: a closed day", 0, 1)
            .index(1, "- `hour`: 0 to 3", 0, 3)
            .check("Throws `IndexOutOfBoundsException` if there is no such closed day or hour", null, null);
        edges.refused("no day is closed", Checks.INDEX, Markets::toBeSold, x -> x.gap(0, 0));
        edges.refused("day 9", Checks.INDEX, Markets::dayNineCleared, x -> x.gap(9, 0));
        edges.due("day 8 on day 9", Markets.dayNineCleared().gap(8, 3), 0);
        edges.promise(27, "Returns the gap of an hour.");
        edges.promise(27, "Returns the gap of all firms and zones.");
        for (int sign = -1; sign <= 1; sign += 2) {
            GridMarket x = Markets.sold();
            edges.due("without readings", x.gap(0, 0), 0);
            readAll(x, sign * 200);
            edges.due("all readings at their end, with a plan of 5 and one of -5", x.gap(0, 0), sign * 3600);
            edges.due("another hour", x.gap(0, 1), 0);
        }
    }

    private static void readAll(GridMarket x, int units) {
        for (int firm = 0; firm < 6; firm++) {
            for (int zone = 0; zone < 3; zone++) {
                x.read(0, firm, zone, 0, units);
            }
        }
    }

    private void gapPrice() {
        new CallEdges(edges, 28, Markets::dayTwo, (x, a) -> x.gapPrice(a[0], a[1]), 0, 2)
            .index(0, "- `day`: a closed day", 0, 1)
            .index(1, "- `hour`: 0 to 3", 0, 3)
            .check("Throws `IndexOutOfBoundsException` if there is no such closed day or hour", null, null);
        edges.refused("no day is closed", Checks.INDEX, Markets::toBeSold, x -> x.gapPrice(0, 0));
        edges.refused("day 9", Checks.INDEX, Markets::dayNineCleared, x -> x.gapPrice(9, 0));
        edges.promise(28, "Returns the price of the gap of an hour.");
        edges.promise(28, "Returns the price; NONE if the gap is 0.");
        GridMarket x = Markets.sold();
        edges.due("no reading", x.gapPrice(0, 0), GridMarket.NONE);
        x.read(0, 0, 0, 0, 4);
        edges.due("a gap of -1", x.gapPrice(0, 0), 300);
        edges.due("another hour", x.gapPrice(0, 1), GridMarket.NONE);
        x.read(0, 1, 0, 0, -4);
        edges.due("a gap of -1 and one of 1", x.gapPrice(0, 0), GridMarket.NONE);
        x.read(0, 0, 0, 0, 5);
        edges.due("a gap of 1", x.gapPrice(0, 0), 0);
        edges.due("day 8 on day 9", Markets.dayNineCleared().gapPrice(8, 3), GridMarket.NONE);
    }

    private void bill() {
        new CallEdges(edges, 29, Markets::dayTwo, (x, a) -> x.bill(a[0], a[1]), 0, 2)
            .index(0, "- `day`: a closed day", 0, 1)
            .index(1, "- `firm`: 0 to 5", 0, 5)
            .check("Throws `IndexOutOfBoundsException` if there is no such closed day or firm", null, null);
        edges.refused("no day is closed", Checks.INDEX, Markets::toBeSold, x -> x.bill(0, 0));
        edges.refused("day 9", Checks.INDEX, Markets::dayNineCleared, x -> x.bill(9, 0));
        edges.promise(29, "Returns the bill of a firm by the readings there are now.");
        edges.promise(29, "Returns what it gets less what it pays.");
        edges.due("day 8 on day 9", Markets.dayNineCleared().bill(8, 5), 0);
        GridMarket x = Markets.sold();
        edges.due("of who sells", x.bill(0, 0), 50);
        edges.due("of who buys", x.bill(0, 1), -50);
        edges.due("of who does nothing", x.bill(0, 5), 0);
        x.read(0, 0, 0, 0, 4);
        edges.due("by a reading of one unit less", x.bill(0, 0), 50 - 300);
        x.read(0, 0, 0, 0, 5);
        edges.due("by the reading in its place", x.bill(0, 0), 50);
        readAll(x, -200);
        edges.due("all readings at their least, the plan 5", x.bill(0, 0), 50 - 605 * 300);
        edges.due("all readings at their least, the plan -5", x.bill(0, 1), -50 - 595 * 300);
        edges.due("all readings at their least", x.bill(0, 5), -600 * 300);
        readAll(x, 200);
        edges.due("all readings at their greatest: the price of the gap is 0", x.bill(0, 5), 0);
    }

    private void settled() {
        new CallEdges(edges, 30, Markets::dayTwo, (x, a) -> x.settled(a[0], a[1]), 0, 2)
            .index(0, "- `day`: a closed day", 0, 1)
            .index(1, "- `firm`: 0 to 5", 0, 5)
            .check("Throws `IndexOutOfBoundsException` if there is no such closed day or firm", null, null);
        edges.refused("no day is closed", Checks.INDEX, Markets::toBeSold, x -> x.settled(0, 0));
        edges.refused("day 9", Checks.INDEX, Markets::dayNineCleared, x -> x.settled(9, 0));
        edges.promise(30, "Returns what it got.");
        edges.due("ahead of any run", Markets.sold().settled(0, 0), 0);
        edges.due("day 8 on day 9", Markets.dayNineCleared().settled(8, 5), 0);
        GridMarket x = Markets.sold();
        x.deposit(1, 50);
        x.run(0);
        edges.due("of who sells", x.settled(0, 0), 50);
        edges.due("of who buys", x.settled(0, 1), -50);
        x.read(0, 0, 0, 0, 7);
        x.run(0);
        edges.due("the second run adds nothing at the price 0", x.settled(0, 0), 50);
        x.read(0, 1, 0, 0, -8);
        edges.due("ahead of the third run", x.settled(0, 1), -50);
        edges.promise(30, "Returns what a firm got for a day by all runs, less what it paid; "
            + "runs behind its failing change nothing of that.");
        x.run(0);
        edges.due("by all three runs", x.settled(0, 1), -50 - 3 * 300);
        edges.due("the firm failed by the last", x.hasFailed(1), true);
        GridMarket y = Markets.failed();
        edges.due("the run by which it fails counts", y.settled(0, 0), -50);
        y.read(0, 0, 0, 0, -2);
        y.run(0);
        edges.due("a run behind its failing does not", y.settled(0, 0), -50);
        edges.due("though its bill is another one", y.bill(0, 0), -50 - 300);
        y.read(0, 0, 0, 0, 10);
        y.run(0);
        edges.due("nor does the third", y.settled(0, 0), -50);
        Markets.endDay(y);
        y.read(1, 0, 0, 0, -1);
        y.run(1);
        edges.due("nor one of another day", y.settled(1, 0), 0);
    }

    private void account() {
        new CallEdges(edges, 31, Markets::failed, (x, a) -> x.account(a[0]), 1)
            .index(0, "- `firm`: 0 to 5", 0, 5)
            .check("Throws `IndexOutOfBoundsException` if there is no such firm", null, null);
        edges.promise(31, "Returns the account of a firm.");
        edges.promise(31, "Returns the account.");
        edges.due("first", Markets.fresh().account(5), 0);
        edges.due("the greatest by deposits", Markets.deposited(100).account(0), 10000000);
        edges.due("who failed", Markets.failed().account(0), 0);
        edges.due("who got something", Markets.failed().account(1), 50);
        GridMarket x = Markets.sold();
        edges.due("ahead of a run", x.account(0), 0);
    }

    private void hasFailed() {
        new CallEdges(edges, 32, Markets::failed, (x, a) -> edges.due("it tells", x.hasFailed(a[0]), a[0] == 0), 1)
            .index(0, "- `firm`: 0 to 5", 0, 5)
            .check("Throws `IndexOutOfBoundsException` if there is no such firm", null, null);
        edges.promise(32, "Tells whether a firm has failed.");
        edges.promise(32, "Returns whether it has.");
        edges.due("first", Markets.fresh().hasFailed(5), false);
        GridMarket x = Markets.sold();
        edges.due("ahead of the run", x.hasFailed(1), false);
        x.run(0);
        edges.due("behind the run", x.hasFailed(1), true);
        GridMarket y = Markets.sold();
        y.deposit(1, 50);
        y.run(0);
        edges.due("with an account of 0", y.hasFailed(1), false);
        GridMarket z = Markets.sold();
        z.deposit(1, 49);
        z.run(0);
        edges.due("with an account of 1 below 0", z.hasFailed(1), true);
    }

    private void house() {
        edges.promise(33, "Returns the account of the house, below 0 if it lost.");
        edges.due("first", Markets.fresh().house(), 0);
        edges.due("a deposit is not the house's", Markets.deposited(1).house(), 0);
        edges.due("it gave a loss", Markets.failed().house(), -50);
        GridMarket x = Markets.nextDay();
        x.deposit(0, 300);
        x.read(0, 0, 0, 0, -1);
        edges.due("ahead of the run", x.house(), 0);
        x.run(0);
        edges.due("it got the price of a gap", x.house(), 300);
        x.read(0, 0, 0, 0, 0);
        x.run(0);
        edges.due("it paid it back", x.house(), 0);
        edges.due("the firm got it back", x.account(0), 300);
    }
}
