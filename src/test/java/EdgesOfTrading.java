/** The edges of promises 9 to 14: offer, takeBack, aid, close, read, run. */
final class EdgesOfTrading {
    private final Edges edges;

    EdgesOfTrading(Edges edges) {
        this.edges = edges;
    }

    void check() {
        offer();
        fullOffers();
        takeBack();
        aid();
        fullAids();
        close();
        read();
        run();
        runAnswers();
    }

    private void offer() {
        new CallEdges(edges, 9, Markets::cleared, (x, a) -> x.offer(a[0], a[1], a[2], a[5] == 1, a[3], a[4]), 0, 1, 2, 40, 5, 1)
            .index(0, "- `firm`: 0 to 5", 0, 5)
            .index(1, "- `zone`: 0 to 2", 0, 2)
            .index(2, "- `hour`: 0 to 3", 0, 3)
            .range(3, "- `price`: 0 to 300", 0, 300)
            .range(4, "- `units`: 1 to 10", 1, 10)
            .refusedIn("failed", Markets::failedAndCleared)
            .refusedIn("failed and open for bids", Markets::failed)
            .refusedIn("open for bids", Markets::fresh)
            .refusedIn("open for bids on day 9", Markets::dayNine)
            .refusedIn("there are 60", () -> Markets.offers(60))
            .check("Throws `IndexOutOfBoundsException` if there is no such firm, zone or hour",
                "Throws `IllegalArgumentException` if price or units is out of range",
                "Throws `IllegalStateException` if the firm has failed, the day is not open for offers, or there are 60");
        edges.promise(9, "Lets an offer come.");
        edges.promise(9, "- `isBuy`: whether to buy");
        GridMarket x = Markets.cleared();
        x.offer(0, 0, 0, false, 0, 10);
        x.offer(1, 0, 0, true, 300, 10);
        edges.due("least price meets the greatest", x.left(0) + x.left(1), 0);
        edges.due("plan of who sells", x.plan(0, 0, 0, 0), 10);
        edges.due("plan of who buys", x.plan(0, 1, 0, 0), -10);
        x.close();
        edges.due("bill at the least price", x.bill(0, 1), 0);
        GridMarket y = Markets.cleared();
        y.offer(1, 0, 0, true, 300, 10);
        y.offer(0, 0, 0, false, 0, 10);
        y.close();
        edges.due("bill at the greatest price", y.bill(0, 1), -3000);
        edges.due("offer of another firm than the failed", Markets.failedAndCleared().offer(1, 0, 0, true, 1, 1), 0);
    }

    private void fullOffers() {
        edges.promise(9, "Returns the number of the offer in this day.");
        GridMarket x = Markets.cleared();
        for (int n = 0; n < 60; n++) {
            edges.due("offer", x.offer(n % 6, n % 3, n % 4, true, 7, 1), n);
        }
        edges.dueThrow("the 61st offer", Checks.STATE, () -> x.offer(0, 0, 0, true, 7, 1));
        x.takeBack(59);
        edges.dueThrow("the 61st offer though one was taken back", Checks.STATE, () -> x.offer(0, 0, 0, true, 7, 1));
        edges.due("left of the last", x.left(58), 1);
        x.close();
        x.clear();
        edges.due("first offer of the next day", x.offer(0, 0, 0, false, 7, 1), 0);
        edges.due("it meets none of the day before", x.left(0), 1);
        GridMarket y = Markets.cleared();
        for (int n = 0; n < 59; n++) {
            y.offer(0, 0, 0, false, 7, 10);
        }
        edges.due("the 60th offer meets all that is as good", y.offer(1, 0, 0, true, 7, 10), 59);
        edges.due("left of the 60th", y.left(59), 0);
        edges.due("left of the first", y.left(0), 0);
        edges.due("left of the second", y.left(1), 10);
    }

    private void takeBack() {
        new CallEdges(edges, 10, () -> Markets.offers(4), (x, a) -> x.takeBack(a[0]), 0)
            .index(0, "- `offer`: its number in this day", 0, 3)
            .refusedIn("the resting one met all", Markets::fourOffers, 1)
            .refusedIn("the one that came met all", Markets::fourOffers, 2)
            .refusedIn("it was taken back", Markets::fourOffers, 3)
            .check("Throws `IndexOutOfBoundsException` if there is no such offer", null,
                "Throws `IllegalStateException` if nothing is left of it");
        edges.promise(10, "Throws `IndexOutOfBoundsException` if there is no such offer");
        edges.refused("open for bids", Checks.INDEX, Markets::fresh, x -> x.takeBack(0));
        edges.refused("none yet", Checks.INDEX, Markets::cleared, x -> x.takeBack(0));
        edges.refused("the 61st", Checks.INDEX, () -> Markets.offers(60), x -> x.takeBack(60));
        GridMarket yesterday = Markets.fourOffers();
        yesterday.close();
        edges.dueThrow("one of the day before", Checks.INDEX, () -> yesterday.takeBack(0));
        yesterday.clear();
        edges.dueThrow("one of the day before, cleared", Checks.INDEX, () -> yesterday.takeBack(0));
        edges.promise(10, "Takes an offer back.");
        edges.promise(10, "Returns what was left of it.");
        edges.due("the last of 60", Markets.offers(60).takeBack(59), 10);
        GridMarket x = Markets.fourOffers();
        x.offer(4, 0, 0, true, 30, 4);
        edges.due("one unit", x.takeBack(0), 1);
        edges.due("nothing is left then", x.left(0), 0);
        edges.dueThrow("twice", Checks.STATE, () -> x.takeBack(0));
        x.offer(4, 0, 0, true, 300, 10);
        edges.due("what comes then meets none of what was taken back", x.left(5), 10);
        edges.due("what comes then is taken back whole", x.takeBack(5), 10);
        edges.due("what was traded stays", x.plan(0, 0, 0, 0), 4);
    }

    private void aid() {
        new CallEdges(edges, 11, Markets::fresh, (x, a) -> x.aid(a[0], a[1], a[4] == 1, a[2], a[3]), 0, 2, 40, 5, 1)
            .index(0, "- `firm`: 0 to 5", 0, 5)
            .index(1, "- `hour`: 0 to 3", 0, 3)
            .range(2, "- `price`: 0 to 300", 0, 300)
            .range(3, "- `units`: 1 to 10", 1, 10)
            .refusedIn("failed, open for bids", Markets::failed)
            .refusedIn("failed, open for offers", Markets::failedAndCleared)
            .refusedIn("there are 30", () -> Markets.aids(30))
            .check("Throws `IndexOutOfBoundsException` if there is no such firm or hour",
                "Throws `IllegalArgumentException` if price or units is out of range",
                "Throws `IllegalStateException` if the firm has failed, or there are 30");
        edges.promise(11, "Tells an aid.");
        edges.due("open for bids", Markets.fresh().aid(0, 0, true, 1, 1), 0);
        edges.due("open for offers", Markets.cleared().aid(0, 0, true, 1, 1), 0);
        edges.due("day 9", Markets.dayNineCleared().aid(0, 0, true, 1, 1), 0);
        edges.due("of another firm than the failed", Markets.failed().aid(1, 0, true, 1, 1), 0);
        edges.promise(11, "- `isMore`: whether to give more; otherwise to give less");
        for (int price : new int[] {0, 300}) {
            GridMarket x = Markets.fresh();
            x.aid(1, 0, true, price, 10);
            x.aid(2, 0, false, price, 10);
            Markets.endDay(x);
            x.read(0, 0, 0, 0, -10);
            edges.due("more for " + price, x.bill(0, 1), price * 10);
            edges.due("less is not used", x.bill(0, 2), 0);
            x.read(0, 0, 0, 0, 10);
            edges.due("less for " + price + ", at most the least price of a zone, 0", x.bill(0, 2), 0);
            edges.due("more is not used", x.bill(0, 1), 0);
        }
    }

    private void fullAids() {
        edges.promise(11, "Returns the number of the aid in this day.");
        GridMarket x = Markets.fresh();
        for (int n = 0; n < 29; n++) {
            edges.due("aid", x.aid(n % 6, n % 4, n % 2 == 0, 7, 1), n);
        }
        x.clear();
        edges.due("the 30th aid, behind the clearing", x.aid(0, 0, true, 7, 1), 29);
        edges.dueThrow("the 31st aid", Checks.STATE, () -> x.aid(0, 0, true, 7, 1));
        x.close();
        edges.due("first aid of the next day", x.aid(0, 0, true, 7, 1), 0);
        edges.due("second aid of the next day", x.aid(0, 0, true, 7, 1), 1);
    }

    private void close() {
        edges.promise(12, "Throws `IllegalStateException` if the day is not open for offers, or is day 9");
        edges.refused("on a new object", Checks.STATE, Markets::fresh, GridMarket::close);
        edges.refused("open for bids", Checks.STATE, Markets::toBeSold, GridMarket::close);
        edges.refused("twice", Checks.STATE, Markets::nextDay, GridMarket::close);
        edges.refused("day 9, open for bids", Checks.STATE, Markets::dayNine, GridMarket::close);
        edges.refused("day 9, open for offers", Checks.STATE, Markets::dayNineCleared, GridMarket::close);
        edges.promise(12, "Returns the next day.");
        GridMarket x = Markets.fresh();
        for (int day = 1; day <= 9; day++) {
            x.clear();
            edges.due("close", x.close(), day);
            edges.due("phase", x.phase(), GridMarket.BIDS);
        }
        edges.promise(12, "Closes the day; the next one is open for bids then.");
        edges.due("a bid on day 9", x.bid(0, 0, 0, false, 1, 1), 0);
        edges.due("a bid to buy on day 9", x.bid(1, 0, 0, true, 9, 1), 1);
        edges.due("clear on day 9", x.clear(), 8);
        edges.dueThrow("close of day 9", Checks.STATE, x::close);
        edges.due("day 9 stays", x.day(), 9);
        edges.due("it stays open for offers", x.offer(0, 0, 0, true, 1, 1), 0);
        edges.due("what was cleared stays", x.taken(1), 1);
        edges.due("day 8 is settled", x.run(8), 0);
        edges.dueThrow("day 9 is not closed", Checks.INDEX, () -> x.run(9));
    }

    private void read() {
        new CallEdges(edges, 13, Markets::sold, (x, a) -> x.read(a[0], a[1], a[2], a[3], a[4]), 0, 1, 1, 2, 5)
            .index(0, "- `day`: a closed day", 0, 0)
            .index(1, "- `firm`: 0 to 5", 0, 5)
            .index(2, "- `zone`: 0 to 2", 0, 2)
            .index(3, "- `hour`: 0 to 3", 0, 3)
            .range(4, "- `units`: -200 to 200", -200, 200)
            .check("Throws `IndexOutOfBoundsException` if there is no such closed day, firm, zone or hour",
                "Throws `IllegalArgumentException` if units is out of range", null);
        edges.promise(13, "- `day`: a closed day");
        edges.refused("no day is closed", Checks.INDEX, Markets::toBeSold, x -> x.read(0, 0, 0, 0, 0));
        edges.refused("today, open for offers", Checks.INDEX, Markets::fourOffers, x -> x.read(0, 0, 0, 0, 0));
        edges.refused("day 9", Checks.INDEX, Markets::dayNineCleared, x -> x.read(9, 0, 0, 0, 0));
        edges.refused("day 10", Checks.INDEX, Markets::dayNineCleared, x -> x.read(10, 0, 0, 0, 0));
        edges.due("day 8 on day 9", Markets.dayNineCleared().read(8, 5, 2, 3, 1), 1);
        edges.due("day 0 on day 9", Markets.dayNineCleared().read(0, 5, 2, 3, -1), -1);
        edges.promise(13, "Returns the gap of the firm in this zone and hour then.");
        GridMarket x = Markets.sold();
        edges.due("the most", x.read(0, 0, 0, 0, 200), 195);
        edges.due("the least", x.read(0, 0, 0, 0, -200), -205);
        edges.due("the plan", x.read(0, 0, 0, 0, 5), 0);
        edges.due("nothing", x.read(0, 0, 0, 0, 0), -5);
        edges.due("the most of who buys", x.read(0, 1, 0, 0, 200), 205);
        edges.due("where nothing is planned", x.read(0, 0, 0, 3, 200), 200);
        edges.promise(13, "Reads what a firm gave, in place of an earlier reading.");
        edges.due("gap of both", x.gap(0, 0), 200);
        x.read(0, 1, 0, 0, -5);
        edges.due("gap by the reading in place", x.gap(0, 0), -5);
        x.read(0, 0, 0, 0, 5);
        edges.due("gap of readings that are the plan", x.gap(0, 0), 0);
        GridMarket failed = Markets.failed();
        edges.due("a reading of a firm that failed", failed.read(0, 0, 0, 0, 2), 3);
        GridMarket settled = Markets.runs(3);
        edges.due("a reading behind all runs", settled.read(0, 0, 0, 0, 4), -1);
    }

    private void run() {
        new CallEdges(edges, 14, Markets::sold, (x, a) -> x.run(a[0]), 0)
            .index(0, "- `day`: a closed day", 0, 0)
            .refusedIn("it had 3 runs", () -> Markets.runs(3))
            .check("Throws `IndexOutOfBoundsException` if there is no such closed day", null,
                "Throws `IllegalStateException` if it had 3 runs");
        edges.promise(14, "Throws `IndexOutOfBoundsException` if there is no such closed day");
        edges.refused("no day is closed", Checks.INDEX, Markets::toBeSold, x -> x.run(0));
        edges.refused("today, open for offers", Checks.INDEX, Markets::fourOffers, x -> x.run(0));
        edges.refused("today behind a day of 3 runs", Checks.INDEX, () -> Markets.runs(3), x -> x.run(1));
        edges.refused("day 9", Checks.INDEX, Markets::dayNineCleared, x -> x.run(9));
        edges.refused("day 10", Checks.INDEX, Markets::dayNineCleared, x -> x.run(10));
        edges.due("day 8 on day 9", Markets.dayNineCleared().run(8), 0);
        edges.due("day 0 on day 9", Markets.dayNineCleared().run(0), 0);
        edges.promise(14, "Throws `IllegalStateException` if it had 3 runs");
        GridMarket x = Markets.nextDay();
        Markets.endDay(x);
        for (int n = 0; n < 3; n++) {
            edges.due("run of day 0", x.run(0), 0);
        }
        edges.dueThrow("the 4th run of day 0", Checks.STATE, () -> x.run(0));
        for (int n = 0; n < 3; n++) {
            edges.due("run of day 1", x.run(1), 0);
        }
        edges.dueThrow("the 4th run of day 1", Checks.STATE, () -> x.run(1));
        edges.refused("the 4th run of day 7", Checks.STATE, () -> threeRunsOf(7), y -> y.run(7));
        edges.due("the first run of day 6", threeRunsOf(7).run(6), 0);
    }

    private static GridMarket threeRunsOf(int day) {
        GridMarket x = Markets.fresh();
        for (int closed = 0; closed <= day; closed++) {
            Markets.endDay(x);
        }
        for (int n = 0; n < 3; n++) {
            x.run(day);
        }
        return x;
    }

    private void runAnswers() {
        edges.promise(14, "Settles a day by a run.");
        edges.promise(14, "Returns how many firms fail by that.");
        edges.due("a day without trade", Markets.nextDay().run(0), 0);
        edges.due("one cannot pay", Markets.sold().run(0), 1);
        GridMarket x = Markets.sold();
        x.run(0);
        edges.due("who failed before does not fail again", x.run(0), 0);
        GridMarket all = Markets.fresh();
        Markets.endDay(all);
        for (int firm = 0; firm < 6; firm++) {
            all.read(0, firm, 0, 0, -1);
        }
        edges.due("all six", all.run(0), 6);
        for (int firm = 0; firm < 6; firm++) {
            edges.due("hasFailed", all.hasFailed(firm), true);
            edges.due("account", all.account(firm), 0);
        }
        edges.due("with none there is nothing to share: the house gives all that it got", all.house(), 0);
        edges.due("a run behind that", all.run(0), 0);
    }
}
