import java.nio.file.Files;
import java.nio.file.Path;

/** The edges of "What it is", "Terms" and "Exceptions". */
final class EdgesOfTerms {
    private static final String TERMS = "Terms";
    private static final String EXCEPTIONS = "Exceptions";
    private static final String FLOWS = "In thirds, on a line goes the net of the zone where it begins, less the net of the "
        + "zone where it ends; this must be at most 3 times its limit, and at least 0 less that.";
    private static final int[] BEGIN = {0, 1, 0};
    private static final int[] END = {1, 2, 2};
    private final Edges edges;

    EdgesOfTerms(Edges edges) {
        this.edges = edges;
    }

    void check() throws java.io.IOException {
        manyCalls();
        questions();
        places();
        limits();
        limitsByBids();
        limitsByOffers();
        nets();
        phases();
        bids();
        blocks();
        sets();
        exceptions();
        constants();
        titles();
    }

    private void manyCalls() {
        edges.says("What it is", "An electricity market of three zones: bids in steps and blocks, linked and exclusive ones, "
            + "lines between the zones on which what is exchanged goes by shares, clearing for the most worth, at the price "
            + "of one unit more, rights to the difference of prices, trade hour by hour behind that, balancing by merit, "
            + "readings that come late, settlement in several runs, and firms that fail, whose losses are shared.");
        edges.says("What it is", "An object is used for at most 512 calls after it has been made; what later calls answer is free.");
        GridMarket x = Markets.nextDay();
        for (int call = 3; call <= 511; call++) {
            x.read(0, call % 6, call % 3, call % 4, call % 401 - 200);
        }
        edges.due("the 512th call", x.read(0, 5, 2, 3, 7), 7);
        GridMarket y = Markets.fresh();
        for (int call = 1; call <= 509; call++) {
            y.deposit(call % 6, 1);
        }
        edges.due("the 510th call", y.bid(0, 0, 0, true, 9, 1), 0);
        edges.due("the 511th call", y.clear(), 0);
        edges.due("the 512th call", y.price(0, 0), 9);
    }

    private void questions() {
        edges.says(TERMS, "Questions change nothing.");
        edges.harmless("a new object", Markets::fresh, EdgesOfTerms::askAll);
        edges.harmless("bids", Markets::toBeSold, EdgesOfTerms::askAll);
        edges.harmless("blocks", () -> Markets.blocks(5), EdgesOfTerms::askAll);
        edges.harmless("blocks, cleared", Markets::blocksCleared, EdgesOfTerms::askAll);
        edges.harmless("asks, cleared", Markets::asksCleared, EdgesOfTerms::askAll);
        edges.harmless("offers", Markets::fourOffers, EdgesOfTerms::askAll);
        edges.harmless("aids", () -> Markets.aids(30), EdgesOfTerms::askAll);
        edges.harmless("a closed day", Markets::sold, EdgesOfTerms::askAll);
        edges.harmless("the third day", Markets::dayTwo, EdgesOfTerms::askAll);
        edges.harmless("a firm that failed", Markets::failed, EdgesOfTerms::askAll);
        edges.harmless("the last day", Markets::dayNineCleared, EdgesOfTerms::askAll);
    }

    private static void askAll(GridMarket x) {
        for (int n = -1; n <= 1; n++) {
            int number = n;
            ask(x::day);
            ask(x::phase);
            ask(() -> x.price(number, 0));
            ask(() -> x.net(0, number));
            ask(() -> x.flow(number, number));
            ask(() -> x.taken(number));
            ask(() -> x.isTaken(number));
            ask(() -> x.gain(number));
            ask(x::worthAnew);
            ask(() -> x.given(number));
            ask(() -> x.left(number));
            ask(() -> x.plan(number, 0, 0, 0));
            ask(() -> x.gap(number, 0));
            ask(() -> x.gapPrice(0, number));
            ask(() -> x.bill(0, number));
            ask(() -> x.settled(number, 1));
            ask(() -> x.account(number));
            ask(() -> x.hasFailed(number));
            ask(x::house);
        }
    }

    private static void ask(Checks.Call call) {
        try {
            call.make();
        } catch (IndexOutOfBoundsException | IllegalStateException e) {
            // A question that is refused is asked here as well.
        }
    }

    private void places() {
        edges.says(TERMS, "It is day 0 at first; a day has the hours 0 to 3.");
        edges.due("first day", Markets.fresh().day(), 0);
        edges.due("least hour", Markets.fresh().plan(0, 0, 0, 0), 0);
        edges.due("greatest hour", Markets.fresh().plan(0, 0, 0, 3), 0);
        edges.refused("below the least hour", Checks.INDEX, Markets::fresh, x -> x.plan(0, 0, 0, -1));
        edges.refused("above the greatest hour", Checks.INDEX, Markets::fresh, x -> x.plan(0, 0, 0, 4));
        edges.says(TERMS, "There are the firms 0 to 5, the zones 0 to 2, and the lines 0, from the zone 0 to 1, 1, from 1 to 2, "
            + "and 2, from 0 to 2.");
        edges.due("greatest firm and zone", Markets.fresh().plan(0, 5, 2, 0), 0);
        edges.refused("above the greatest firm", Checks.INDEX, Markets::fresh, x -> x.plan(0, 6, 0, 0));
        edges.refused("above the greatest zone", Checks.INDEX, Markets::fresh, x -> x.plan(0, 0, 3, 0));
        edges.refused("above the greatest line", Checks.INDEX, Markets::cleared, x -> x.flow(3, 0));
        for (int line = 0; line < 3; line++) {
            GridMarket x = Markets.cleared();
            x.offer(0, BEGIN[line], 0, false, 1, 1);
            x.offer(1, END[line], 0, true, 1, 1);
            edges.due("two thirds on line " + line, x.flow(line, 0), 2);
            for (int other = 0; other < 3; other++) {
                if (other != line) {
                    boolean isAlong = BEGIN[other] == BEGIN[line] || END[other] == END[line];
                    edges.due("a third round about on line " + other, x.flow(other, 0), isAlong ? 1 : -1);
                }
            }
        }
    }

    private void limits() {
        edges.says(TERMS, "A line has a limit, 0 to 10, which is 5 at first.");
        for (int line = 0; line < 3; line++) {
            edges.due("first limit", Markets.fresh().setLimit(line, 0), 5);
            edges.due("sold over a line by the first limit", sold(Markets.fresh(), BEGIN[line], END[line]).flow(line, 0), 14);
        }
        edges.refused("below 0", Checks.ARGUMENT, Markets::fresh, x -> x.setLimit(0, -1));
        edges.refused("above 10", Checks.ARGUMENT, Markets::fresh, x -> x.setLimit(0, 11));
    }

    /** Up to 20 units from a zone to another one in hour 0, by clearing. */
    private static GridMarket sold(GridMarket x, int from, int to) {
        for (int n = 0; n < 2; n++) {
            x.bid(0, from, 0, false, 10, 10);
            x.bid(1, to, 0, true, 50, 10);
        }
        x.clear();
        return x;
    }

    private static GridMarket traded(GridMarket x, int from, int to) {
        x.clear();
        for (int n = 0; n < 2; n++) {
            x.offer(0, from, 0, false, 10, 10);
            x.offer(1, to, 0, true, 50, 10);
        }
        return x;
    }

    /** The other two lines have the limit 10. */
    private static GridMarket oneLimit(int line, int limit) {
        GridMarket x = Markets.limits(10, 10, 10);
        x.setLimit(line, limit);
        return x;
    }

    private void limitsByBids() {
        edges.says(TERMS, FLOWS);
        for (int line = 0; line < 3; line++) {
            int third = 3 - BEGIN[line] - END[line];
            for (int limit : new int[] {0, 1, 2, 3, 9, 10}) {
                int along = 3 * limit / 2;
                int round = Math.min(3 * limit, 15);
                String what = "line " + line + ", limit " + limit;
                edges.due(what, sold(oneLimit(line, limit), BEGIN[line], END[line]).flow(line, 0), 2 * along);
                edges.due(what + ", the other way", sold(oneLimit(line, limit), END[line], BEGIN[line]).flow(line, 0), -2 * along);
                edges.due(what + ", round about", sold(oneLimit(line, limit), BEGIN[line], third).net(third, 0), -round);
                edges.due(what + ", round about, the other way", sold(oneLimit(line, limit), third, BEGIN[line]).net(third, 0), round);
            }
        }
        blockOnTheLimit(1, 3, 300);
        blockOnTheLimit(1, 4, 0);
        blockOnTheLimit(2, 6, 600);
        blockOnTheLimit(2, 7, 0);
        blockOnTheLimit(0, 1, 0);
    }

    /** A block of units goes round about over line 0, which lets 3 times its limit; the price at its end lets it gain. */
    private void blockOnTheLimit(int limit, int units, int worth) {
        GridMarket x = Markets.limits(limit, 10, 10);
        x.block(0, 0, 1, false, 0, units);
        x.block(1, 2, 1, true, 100, units);
        edges.due("a block of " + units + " thirds on a line of limit " + limit, x.clear(), worth);
        edges.due("it is taken", x.isTaken(0), worth > 0);
        edges.due("what goes", x.flow(0, 0), worth > 0 ? units : 0);
        GridMarket y = Markets.limits(limit, 10, 10);
        y.block(0, 2, 1, false, 0, units);
        y.block(1, 0, 1, true, 100, units);
        edges.due("the other way", y.clear(), worth);
        edges.due("what goes the other way", y.flow(0, 0), worth > 0 ? -units : 0);
    }

    private void limitsByOffers() {
        edges.says(TERMS, FLOWS);
        for (int line = 0; line < 3; line++) {
            int third = 3 - BEGIN[line] - END[line];
            for (int limit : new int[] {0, 1, 2, 3, 9, 10}) {
                int along = 3 * limit / 2;
                int round = Math.min(3 * limit, 15);
                String what = "by offers, line " + line + ", limit " + limit;
                edges.due(what, traded(oneLimit(line, limit), BEGIN[line], END[line]).flow(line, 0), 2 * along);
                edges.due(what + ", the other way", traded(oneLimit(line, limit), END[line], BEGIN[line]).flow(line, 0), -2 * along);
                edges.due(what + ", round about", traded(oneLimit(line, limit), END[line], third).net(third, 0), -round);
                edges.due(what + ", round about, the other way", traded(oneLimit(line, limit), third, END[line]).net(third, 0), round);
            }
        }
    }

    private void nets() {
        edges.says(TERMS, "The net of a zone in an hour is what goes out of it, less what comes in; the nets of the zones are 0, together.");
        GridMarket x = Markets.bids(40);
        x.block(0, 0, 15, false, 0, 3);
        x.clear();
        for (int n = 0; n < 20; n++) {
            x.offer(n % 2, n % 3, n % 4, n % 2 == 0, 100, 1 + n % 10);
        }
        for (int hour = 0; hour < 4; hour++) {
            edges.due("all nets together", x.net(0, hour) + x.net(1, hour) + x.net(2, hour), 0);
            for (int zone = 0; zone < 3; zone++) {
                int plans = 0;
                for (int firm = 0; firm < 6; firm++) {
                    plans += x.plan(0, firm, zone, hour);
                }
                edges.due("what is sold in a zone less what is bought there", x.net(zone, hour), plans);
            }
        }
    }

    private void phases() {
        edges.says(TERMS, "A day is first open for bids, until it is cleared; then for offers, until it is closed; "
            + "then the next day begins, and is open for bids.");
        GridMarket x = Markets.fresh();
        edges.due("at first", x.phase(), GridMarket.BIDS);
        edges.due("a bid", x.bid(0, 0, 0, true, 1, 1), 0);
        edges.dueThrow("no offer yet", Checks.STATE, () -> x.offer(0, 0, 0, true, 1, 1));
        x.clear();
        edges.due("cleared", x.phase(), GridMarket.OFFERS);
        edges.dueThrow("no bid any more", Checks.STATE, () -> x.bid(0, 0, 0, true, 1, 1));
        edges.due("an offer", x.offer(0, 0, 0, true, 1, 1), 0);
        x.close();
        edges.due("the next day", x.day(), 1);
        edges.due("open for bids", x.phase(), GridMarket.BIDS);
        edges.due("a bid of the next day", x.bid(0, 0, 0, true, 1, 1), 0);
        edges.dueThrow("no offer any more", Checks.STATE, () -> x.offer(0, 0, 0, true, 1, 1));
    }

    private void bids() {
        edges.says(TERMS, "A bid is of a firm, in a zone and an hour, to buy or to sell up to some units, 1 to 10, "
            + "for a price for each, 0 to 200; there are at most 40 in a day, numbered from 0.");
        GridMarket x = Markets.fresh();
        x.bid(0, 0, 0, false, 0, 10);
        x.bid(1, 0, 0, true, 200, 1);
        x.bid(0, 0, 1, false, 0, 1);
        x.bid(1, 0, 1, true, 200, 10);
        edges.due("a bid may be taken in part", x.clear(), 400);
        edges.due("one unit of ten to sell", x.taken(0), 1);
        edges.due("one unit of one", x.taken(1), 1);
        edges.due("one unit of ten to buy", x.taken(3), 1);
        edges.refused("0 units", Checks.ARGUMENT, Markets::fresh, y -> y.bid(0, 0, 0, true, 0, 0));
        edges.refused("11 units", Checks.ARGUMENT, Markets::fresh, y -> y.bid(0, 0, 0, true, 0, 11));
        edges.refused("a price below 0", Checks.ARGUMENT, Markets::fresh, y -> y.bid(0, 0, 0, true, -1, 1));
        edges.refused("a price above 200", Checks.ARGUMENT, Markets::fresh, y -> y.bid(0, 0, 0, true, 201, 1));
        edges.due("the 40th", Markets.bids(39).bid(0, 0, 0, true, 0, 1), 39);
        edges.refused("the 41st", Checks.STATE, () -> Markets.bids(40), y -> y.bid(0, 0, 0, true, 0, 1));
    }

    private void blocks() {
        edges.says(TERMS, "A block is of a firm, in a zone, to buy or to sell as many units in each of some hours, for a price "
            + "for each unit and hour, on average; there are at most 5 in a day, numbered from 0.");
        edges.due("5 units in one hour, 5 in the other one, for 30 on average", unevenDemand(5, 30), 300);
        edges.due("for 31 on average", unevenDemand(5, 31), 0);
        edges.due("only 4 would be bought in the other one", unevenDemand(4, 0), 0);
        edges.due("the 5th", Markets.blocks(4).block(0, 0, 1, true, 0, 1), 4);
        edges.refused("the 6th", Checks.STATE, () -> Markets.blocks(5), x -> x.block(0, 0, 1, true, 0, 1));
    }

    /** In hour 0 there is one more to buy, so the price is 60; in hour 1 there is none, so it is 0. */
    private static int unevenDemand(int inHourOne, int price) {
        GridMarket x = Markets.fresh();
        x.bid(1, 0, 0, true, 60, 6);
        x.bid(1, 0, 1, true, 60, inHourOne);
        x.block(0, 0, 3, false, price, 5);
        return x.clear();
    }

    private void sets() {
        edges.says(TERMS, "A block may be linked to an earlier one, and may be in a group.");
        edges.taken("to the first one, in the least group", () -> Markets.blocks(5).link(4, 0, 0));
        edges.taken("to the one ahead of it, in the greatest group", () -> Markets.blocks(5).link(4, 3, 2));
        edges.taken("neither", () -> Markets.blocks(5).link(4, GridMarket.NONE, GridMarket.NONE));
        edges.says(TERMS, "A set of blocks is allowed, if for each one that is linked it has the one to which it is, too, "
            + "and of each group it has one block at most.");
        edges.due("all five free: the first one is worth nothing", chain(60, false).clear(), 200);
        edges.due("all five free", setOf(chain(60, false)), 30);
        edges.due("each linked to the one ahead of it", chain(60, true).clear(), 200);
        edges.due("so the first one is taken, too", setOf(chain(60, true)), 31);
        edges.due("the first one would lose: so none", chain(61, true).clear(), 0);
        edges.due("the first one would lose, all free", chain(61, false).clear(), 200);
        groups();
    }

    /** Five blocks of one unit, the first for a price, the others for 10; the price of the zone is 60. */
    private static GridMarket chain(int first, boolean isLinked) {
        GridMarket x = Markets.fresh();
        x.bid(0, 0, 0, true, 60, 10);
        for (int n = 0; n < 5; n++) {
            x.block(n, 0, 1, false, n == 0 ? first : 10, 1);
            if (isLinked && n > 0) {
                x.link(n, n - 1, GridMarket.NONE);
            }
        }
        return x;
    }

    private static int setOf(GridMarket x) {
        x.clear();
        int set = 0;
        for (int n = 0; n < 5; n++) {
            set += x.isTaken(n) ? 1 << n : 0;
        }
        return set;
    }

    private void groups() {
        GridMarket one = chain(10, false);
        GridMarket three = chain(10, false);
        GridMarket linked = chain(10, false);
        for (int n = 0; n < 5; n++) {
            one.link(n, GridMarket.NONE, 0);
            three.link(n, GridMarket.NONE, n % 3);
            linked.link(n, n - 1, n < 2 ? 2 : GridMarket.NONE);
        }
        edges.due("all in one group", setOf(one), 1);
        edges.due("in three groups", setOf(three), 7);
        edges.due("linked to one of its own group: only that one", setOf(linked), 1);
    }

    private void exceptions() {
        edges.says(EXCEPTIONS, "IndexOutOfBoundsException: there is no such day, hour, firm, zone, line, bid, block, ask, offer or aid.");
        edges.refused("day", Checks.INDEX, Markets::sold, x -> x.gap(1, 0));
        edges.refused("hour", Checks.INDEX, Markets::sold, x -> x.gap(0, 4));
        edges.refused("firm", Checks.INDEX, Markets::sold, x -> x.account(6));
        edges.refused("zone", Checks.INDEX, Markets::fourOffers, x -> x.price(3, 0));
        edges.refused("line", Checks.INDEX, Markets::fourOffers, x -> x.flow(3, 0));
        edges.refused("bid", Checks.INDEX, Markets::toBeSold, x -> x.taken(2));
        edges.refused("block", Checks.INDEX, () -> Markets.blocks(3), x -> x.gain(3));
        edges.refused("ask", Checks.INDEX, () -> Markets.asks(3), x -> x.given(3));
        edges.refused("offer", Checks.INDEX, Markets::fourOffers, x -> x.left(4));
        edges.says(EXCEPTIONS, "IllegalArgumentException: another argument is out of its range.");
        edges.refused("price", Checks.ARGUMENT, Markets::fresh, x -> x.bid(0, 0, 0, true, 201, 1));
        edges.says(EXCEPTIONS, "IllegalStateException: as the method tells.");
        edges.refused("close", Checks.STATE, Markets::fresh, GridMarket::close);
        edges.says(EXCEPTIONS, "If several apply, the one that is named first in the throws clause is thrown.");
        edges.refused("all three of offer", Checks.INDEX, Markets::fresh, x -> x.offer(6, 0, 0, true, 301, 1));
        edges.refused("two of offer", Checks.ARGUMENT, Markets::fresh, x -> x.offer(0, 0, 0, true, 301, 1));
        edges.refused("two of price", Checks.INDEX, Markets::fresh, x -> x.price(0, 4));
        edges.refused("two of read", Checks.INDEX, Markets::sold, x -> x.read(0, 0, 0, 4, 201));
        edges.refused("two of taken", Checks.INDEX, Markets::toBeSold, x -> x.taken(-1));
        edges.says(EXCEPTIONS, "A call that throws an exception changes nothing.");
        edges.refused("a refused call does not use up a number", Checks.ARGUMENT, Markets::toBeSold, x -> x.bid(0, 0, 0, true, 1, 11));
        edges.refused("a refused run is no run", Checks.INDEX, Markets::sold, x -> x.run(1));
        edges.refused("a refused reading is none", Checks.ARGUMENT, Markets::sold, x -> x.read(0, 0, 0, 0, 201));
    }

    private void constants() {
        edges.says(EXCEPTIONS, "The constants: `NONE = -1`: There is none.");
        edges.due("NONE", GridMarket.NONE, -1);
        edges.says(EXCEPTIONS, "`BIDS = 0, OFFERS = 1`: What a day is: open for bids, or open for offers.");
        edges.due("BIDS", GridMarket.BIDS, 0);
        edges.due("OFFERS", GridMarket.OFFERS, 1);
    }

    private void titles() throws java.io.IOException {
        title("Ahead of the calls `deposit`, `setLimit` the interface says: ---- firms, lines.");
        title("Ahead of the calls `bid`, `block`, `link`, `ask`, `clear` the interface says: ---- bids, blocks, rights.");
        title("Ahead of the calls `offer`, `takeBack`, `aid`, `close` the interface says: ---- offers, aids, closing.");
        title("Ahead of the calls `read`, `run` the interface says: ---- readings, settlement.");
        title("Ahead of the calls `day`, `phase`, `price`, `net`, `flow`, `taken`, `isTaken`, `gain`, `worthAnew`, `given`, "
            + "`left` the interface says: ---- what is asked of today.");
        title("Ahead of the calls `plan`, `gap`, `gapPrice`, `bill`, `settled`, `account`, `hasFailed`, `house` the interface "
            + "says: ---- what is asked of days and firms.");
    }

    private void title(String sentence) throws java.io.IOException {
        edges.says(EXCEPTIONS, sentence);
        String source = Files.readString(Path.of("src/main/java/GridMarket.java"));
        String title = sentence.substring(sentence.indexOf("----"), sentence.length() - 1);
        int at = source.indexOf("// " + title + "\n");
        edges.due("the title stands in the class", at >= 0, true);
        int next = source.indexOf("// ----", at + 1);
        for (String part : sentence.substring(0, sentence.indexOf(" the interface")).split("`")) {
            if (part.matches("[a-zA-Z]+")) {
                int call = source.indexOf(" " + part + "(", at);
                edges.due(part + " stands under it", at >= 0 && call > at && call < next, true);
            }
        }
    }
}
