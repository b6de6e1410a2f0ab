/** The edges of "Clearing" and "Rights". */
final class EdgesOfClearing {
    private static final String CLEARING = "Clearing";
    private static final String RIGHTS = "Rights";
    private final Edges edges;

    EdgesOfClearing(Edges edges) {
        this.edges = edges;
    }

    void check() {
        netsOfAll();
        merit();
        mostWorth();
        bestNets();
        equalNets();
        notPossible();
        prices();
        pricesByLimits();
        noPrices();
        losing();
        bestSets();
        emptySet();
        payments();
        fewAsks();
        givenUnits();
        costs();
        differences();
    }

    private void netsOfAll() {
        edges.says(CLEARING, "With a set of blocks, and a net for each zone, in each hour, the bids of a zone are taken like this: "
            + "the units of blocks to sell, less those of blocks to buy, and what is taken of bids to sell, less what is taken of "
            + "bids to buy, are the net.");
        GridMarket x = Markets.fresh();
        x.bid(0, 0, 0, false, 10, 3);
        x.bid(1, 0, 0, true, 50, 2);
        x.bid(2, 1, 0, true, 100, 10);
        x.block(3, 0, 1, false, 0, 6);
        x.block(4, 0, 1, true, 200, 2);
        edges.due("worth", x.clear(), 2 * 200 + 7 * 100 - 3 * 10);
        edges.due("6 - 2 + 3 - 0", x.net(0, 0), 7);
        edges.due("to sell", x.taken(0), 3);
        edges.due("to buy", x.taken(1), 0);
        edges.due("0 - 0 + 0 - 7", x.net(1, 0), -7);
        edges.due("to buy there", x.taken(2), 7);
        edges.due("without bids and blocks", x.net(2, 0), 0);
    }

    private void merit() {
        edges.says(CLEARING, "Bids to sell are taken by rising prices, those to buy by falling ones, of several of a price the "
            + "earlier ones first, each fully ahead of the next one.");
        for (int units = 0; units <= 10; units++) {
            ofAPrice(false, units);
            ofAPrice(true, units);
        }
        GridMarket x = Markets.fresh();
        x.bid(0, 0, 0, false, 200, 1);
        x.bid(0, 0, 0, false, 1, 1);
        x.bid(0, 0, 0, false, 0, 1);
        x.bid(1, 0, 0, true, 2, 1);
        x.bid(1, 0, 0, true, 199, 1);
        x.clear();
        edges.due("the cheapest one", x.taken(2), 1);
        edges.due("the next one", x.taken(1), 1);
        edges.due("the dearest one", x.taken(0), 0);
    }

    /** Three bids of one price, three units each; so many are wanted on the other side. */
    private void ofAPrice(boolean isBuy, int units) {
        GridMarket x = Markets.fresh();
        for (int n = 0; n < 3; n++) {
            x.bid(n, 0, 0, isBuy, 50, 3);
        }
        if (units > 0) {
            x.bid(5, 0, 0, !isBuy, isBuy ? 1 : 99, units);
        }
        x.clear();
        for (int n = 0; n < 3; n++) {
            edges.due("bid " + n + " of three of a price, " + units + " units", x.taken(n), Math.max(0, Math.min(3, units - 3 * n)));
        }
    }

    private void mostWorth() {
        edges.says(CLEARING, "Among all that is possible as much is taken as gives the most worth, which is the prices of units "
            + "taken of bids to buy, less those of units taken of bids to sell; of several the least.");
        edges.due("one more for it", pair(20, 21).clear(), 1);
        edges.due("taken for one more", takenOfPair(20, 21), 1);
        edges.due("the same for it", pair(20, 20).clear(), 0);
        edges.due("not taken for the same", takenOfPair(20, 20), 0);
        edges.due("one less for it", pair(20, 19).clear(), 0);
        edges.due("not taken for one less", takenOfPair(20, 19), 0);
        edges.due("both prices 0", takenOfPair(0, 0), 0);
        edges.due("both prices 200", takenOfPair(200, 200), 0);
        edges.due("prices 0 and 1", takenOfPair(0, 1), 1);
        edges.due("prices 0 and 200", pair(0, 200).clear(), 200);
        GridMarket x = Markets.fresh();
        x.bid(0, 0, 0, true, 5, 1);
        x.bid(0, 0, 0, true, 0, 9);
        x.block(1, 0, 1, false, 0, 3);
        edges.due("a block lets units be bought for nothing", x.clear(), 5);
        edges.due("as many as it needs, not more", x.taken(1), 2);
        farthest();
        GridMarket most = Markets.fresh();
        for (int n = 0; n < 20; n++) {
            most.bid(0, n % 3, 3, true, 200, 10);
            most.bid(1, n % 3, 3, false, 0, 10);
        }
        edges.due("the most that 40 bids can be worth", most.clear(), 200 * 200);
    }

    /** The bids of one zone meet 50 units of blocks and the greatest net, 20; one unit more is the 71st. */
    private void farthest() {
        GridMarket x = Markets.limits(10, 10, 10);
        for (int n = 0; n < 8; n++) {
            x.bid(0, 2, 0, true, 100 - n, 10);
        }
        for (int n = 0; n < 5; n++) {
            x.block(1, 2, 1, false, 50, 10);
        }
        x.bid(2, 0, 0, false, 40, 10);
        x.bid(2, 1, 0, false, 40, 10);
        edges.due("70 units bought", x.clear(), 10 * (100 + 99 + 98 + 97 + 96 + 95 + 94) - 50 * 50 - 20 * 40);
        edges.due("the 70th", x.taken(6), 10);
        edges.due("the 71st", x.taken(7), 0);
        edges.due("its price", x.price(2, 0), 93);
        GridMarket all = Markets.fresh();
        for (int n = 0; n < 40; n++) {
            all.bid(0, 0, 0, n < 20, 100, 10);
        }
        edges.due("200 units on each side for one price", all.clear(), 0);
        for (boolean isBuy : new boolean[] {false, true}) {
            GridMarket side = Markets.fresh();
            for (int n = 0; n < 40; n++) {
                side.bid(0, 1, 0, isBuy, 100, 10);
            }
            edges.due("400 units on one side", side.clear(), 0);
            edges.due("price of the first of them", side.price(1, 0), isBuy ? 100 : 0);
        }
    }

    private static GridMarket pair(int sell, int buy) {
        GridMarket x = Markets.fresh();
        x.bid(0, 0, 0, false, sell, 1);
        x.bid(1, 0, 0, true, buy, 1);
        return x;
    }

    private static int takenOfPair(int sell, int buy) {
        GridMarket x = pair(sell, buy);
        x.clear();
        return x.taken(0) + x.taken(1) - x.taken(0) * x.taken(1);
    }

    private void bestNets() {
        edges.says(CLEARING, "The nets of an hour are those that the limits allow, for which this is possible in all zones, with the "
            + "most worth, all zones together");
        GridMarket x = Markets.fresh();
        x.bid(0, 0, 0, false, 20, 1);
        x.bid(1, 1, 0, true, 21, 1);
        edges.due("worth one more: it goes", x.clear(), 1);
        edges.due("net", x.net(0, 0), 1);
        GridMarket y = Markets.fresh();
        y.bid(0, 0, 0, false, 20, 10);
        y.bid(0, 1, 0, false, 21, 10);
        y.bid(1, 1, 0, true, 50, 10);
        edges.due("cheaper by one elsewhere: as much as line 0 lets", y.clear(), 7 * 30 + 3 * 29);
        edges.due("what is sold elsewhere", y.taken(0), 7);
        edges.due("what is sold there", y.taken(1), 3);
    }

    private void equalNets() {
        edges.says(CLEARING, "of several those with the least that goes on the lines, all without signs, together");
        GridMarket x = Markets.fresh();
        x.bid(0, 0, 0, false, 20, 1);
        x.bid(1, 1, 0, true, 20, 1);
        edges.due("worth nothing: it does not go", x.clear(), 0);
        edges.due("net", x.net(0, 0), 0);
        GridMarket y = Markets.fresh();
        y.bid(0, 0, 0, false, 20, 1);
        y.bid(0, 1, 0, false, 20, 1);
        y.bid(1, 1, 0, true, 50, 1);
        y.clear();
        edges.due("as cheap elsewhere: it does not go", y.net(0, 0), 0);
        edges.due("sold there", y.taken(1), 1);
        GridMarket home = Markets.fresh();
        home.bid(0, 0, 0, false, 20, 1);
        home.bid(0, 1, 0, false, 20, 1);
        home.bid(1, 0, 0, true, 50, 1);
        home.clear();
        edges.due("as cheap elsewhere: it does not come, though a net below 0 would be less", home.net(0, 0), 0);
        for (int zone = 0; zone < 3; zone++) {
            fromBoth(zone);
        }
        edges.says(CLEARING, "; of several those with the least net of the zone 0, then of the zone 1.");
        GridMarket two = Markets.fresh();
        two.bid(0, 0, 0, false, 10, 1);
        two.bid(0, 1, 0, false, 10, 1);
        two.bid(1, 2, 0, true, 50, 1);
        two.clear();
        edges.due("least net of zone 0", two.net(0, 0), 0);
        edges.due("so zone 1 sells", two.net(1, 0), 1);
        GridMarket around = Markets.fresh();
        around.bid(0, 0, 0, false, 10, 1);
        around.bid(0, 2, 0, false, 10, 1);
        around.bid(1, 1, 0, true, 50, 1);
        around.clear();
        edges.due("the same goes on the lines from zone 0 as from zone 2", around.net(0, 0), 0);
        edges.due("so zone 2 sells", around.net(2, 0), 1);
        GridMarket back = Markets.fresh();
        back.bid(0, 2, 0, false, 10, 1);
        back.bid(1, 0, 0, true, 50, 1);
        back.bid(1, 1, 0, true, 50, 1);
        back.clear();
        edges.due("least net of zone 0, below 0", back.net(0, 0), -1);
        edges.due("so zone 1 does not buy", back.net(1, 0), 0);
        GridMarket one = Markets.fresh();
        one.bid(0, 0, 0, false, 10, 1);
        one.bid(1, 1, 0, true, 50, 1);
        one.bid(1, 2, 0, true, 50, 1);
        one.clear();
        edges.due("the same net of zone 0", one.net(0, 0), 1);
        edges.due("least net of zone 1", one.net(1, 0), -1);
        edges.due("so zone 2 does not buy", one.net(2, 0), 0);
    }

    /** One zone buys two units, the other two would sell two each: one from each side goes on the lines least. */
    private void fromBoth(int buyer) {
        GridMarket x = Markets.fresh();
        for (int zone = 0; zone < 3; zone++) {
            x.bid(zone, zone, 0, zone == buyer, zone == buyer ? 50 : 10, 2);
        }
        x.clear();
        for (int zone = 0; zone < 3; zone++) {
            edges.due("one from each side to zone " + buyer, x.net(zone, 0), zone == buyer ? -2 : 1);
        }
    }

    private void notPossible() {
        edges.says(CLEARING, "If there are none, this set of blocks is not possible.");
        for (boolean isBuy : new boolean[] {false, true}) {
            GridMarket alone = Markets.fresh();
            alone.block(0, 0, 1, isBuy, isBuy ? 200 : 0, 1);
            edges.due("a block with nothing on the other side", alone.clear(), 0);
            edges.due("it is not taken", alone.isTaken(0), false);
            for (int bids = 9; bids <= 10; bids++) {
                GridMarket x = Markets.fresh();
                x.bid(1, 0, 0, !isBuy, 100, bids);
                x.block(0, 0, 1, isBuy, isBuy ? 200 : 0, 10);
                x.clear();
                edges.due("10 units with bids of " + bids, x.isTaken(0), bids == 10);
            }
        }
        edges.due("two blocks that the limits let meet", twoBlocks(7).clear(), 350);
        edges.due("two blocks that they do not", twoBlocks(8).clear(), 0);
        GridMarket hour = Markets.fresh();
        hour.bid(1, 0, 0, true, 100, 10);
        hour.block(0, 0, 3, false, 0, 1);
        edges.due("possible in one of its hours only", hour.clear(), 0);
        edges.due("it is not taken", hour.isTaken(0), false);
    }

    private static GridMarket twoBlocks(int units) {
        GridMarket x = Markets.fresh();
        x.block(0, 0, 1, false, 0, units);
        x.block(1, 1, 1, true, 50, units);
        return x;
    }

    private void price(String what, int want, GridMarket x) {
        x.clear();
        edges.due(what, x.price(0, 0), want);
    }

    private static GridMarket bidsOf(int[] sells, int[] buys) {
        GridMarket x = Markets.fresh();
        for (int n = 0; n + 1 < sells.length; n += 2) {
            x.bid(0, 0, 0, false, sells[n], sells[n + 1]);
        }
        for (int n = 0; n + 1 < buys.length; n += 2) {
            x.bid(1, 0, 0, true, buys[n], buys[n + 1]);
        }
        return x;
    }

    private void prices() {
        edges.says(CLEARING, "The price of a zone in an hour, with a set of blocks, is how much more worth there could be in this "
            + "hour, if one unit came to this zone from nowhere: if its blocks and its bids had to make one less than its net, "
            + "whatever the nets are then, by the same limits.");
        price("one that sells is taken in part", 10, bidsOf(new int[] {10, 9}, new int[] {50, 4}));
        price("all that sell are taken, one that buys in part", 50, bidsOf(new int[] {10, 4}, new int[] {50, 9}));
        price("all that sell are taken, and one that buys; the next one buys for less", 30,
            bidsOf(new int[] {10, 4}, new int[] {50, 4, 30, 1}));
        price("all are taken: one unit less of the dearest is sold", 15, bidsOf(new int[] {10, 2, 15, 2}, new int[] {50, 4}));
        price("nothing is taken: what is bought for most", 9, bidsOf(new int[] {10, 4}, new int[] {8, 1, 9, 1}));
        price("only to buy", 20, bidsOf(new int[0], new int[] {20, 1}));
        price("only to buy, for 0", 0, bidsOf(new int[0], new int[] {0, 1}));
        price("only to buy, for the most", 200, bidsOf(new int[0], new int[] {200, 1}));
        price("equal prices, nothing is taken", 20, bidsOf(new int[] {20, 1}, new int[] {20, 1}));
        GridMarket others = Markets.fresh();
        others.bid(1, 1, 0, true, 40, 1);
        price("what another zone would buy", 40, others);
        GridMarket block = bidsOf(new int[0], new int[] {60, 5, 30, 1});
        block.block(2, 0, 1, false, 30, 5);
        price("with the block that is taken", 30, block);
    }

    private void pricesByLimits() {
        edges.says(CLEARING, "whatever the nets are then, by the same limits.");
        GridMarket parted = Markets.limits(0, 0, 0);
        parted.bid(1, 1, 0, true, 40, 1);
        price("what another zone would buy, if nothing can go", 0, parted);
        edges.due("price of the other zone", parted.price(1, 0), 40);
        GridMarket x = Markets.limits(1, 10, 10);
        x.bid(0, 0, 0, false, 10, 10);
        x.bid(1, 1, 0, true, 50, 10);
        price("of three thirds two are used: no unit more from zone 0", 10, x);
        edges.due("zone 1", x.price(1, 0), 50);
        edges.due("a unit from zone 2 uses the last third", x.price(2, 0), 50);
        GridMarket y = Markets.limits(0, 10, 10);
        y.bid(0, 0, 0, false, 10, 10);
        y.bid(1, 1, 0, true, 50, 10);
        price("nothing goes", 0, y);
        edges.due("zone 1", y.price(1, 0), 50);
        edges.due("a unit from zone 2 has no third", y.price(2, 0), 0);
        GridMarket both = Markets.limits(5, 5, 0);
        both.bid(0, 0, 0, false, 10, 1);
        both.bid(0, 1, 0, true, 50, 10);
        both.clear();
        edges.due("a unit of zone 2 lets another one go from zone 0", both.price(2, 0), 50 + 50 - 10);
    }

    private void noPrices() {
        edges.says(CLEARING, "It is 0, if that is not possible, or there would be less.");
        price("no bids", 0, Markets.fresh());
        price("only to sell: one unit more has no place", 0, bidsOf(new int[] {10, 1}, new int[0]));
        GridMarket all = bidsOf(new int[0], new int[] {60, 5});
        all.block(2, 0, 1, false, 0, 5);
        price("a block sells to all: one unit more has no place", 0, all);
        GridMarket x = Markets.limits(1, 10, 10);
        x.bid(0, 0, 0, false, 10, 10);
        x.bid(1, 1, 0, true, 100, 10);
        x.bid(2, 2, 0, false, 20, 10);
        price("one unit more must go, and less from zone 2 then", 0, x);
    }

    private void losing() {
        edges.says(CLEARING, "A block of a set loses, if it sells, and the prices of its zone in its hours are less than its price "
            + "times its hours, together; or if it buys, and they are more.");
        int[] none = new int[0];
        edges.due("sells for the price", withBlock(none, new int[] {60, 5, 10, 5}, false, 10), 310 - 60);
        edges.due("sells for one more", withBlock(none, new int[] {60, 5, 10, 5}, false, 11), 0);
        edges.due("buys for the price", withBlock(new int[] {4, 5, 10, 5}, none, true, 10), 60 - 30);
        edges.due("buys for one less", withBlock(new int[] {4, 5, 10, 5}, none, true, 9), 0);
        edges.due("in two hours, sells for the price of both", twoHours(false, 35), 2 * 70 + 60 + 2 * 40 + 10 - 3 * 2 * 35);
        edges.due("in two hours, sells for one more in each", twoHours(false, 36), 0);
        edges.due("in two hours, buys for the price of both", twoHours(true, 35), 3 * 2 * 35 - 2 * 20 - 60 - 2 * 5 - 10);
        edges.due("in two hours, buys for one less in each", twoHours(true, 34), 0);
    }

    /** The worth with a block of six units. */
    private static int withBlock(int[] sells, int[] buys, boolean isBuy, int price) {
        GridMarket x = bidsOf(sells, buys);
        x.block(2, 0, 1, isBuy, price, 6);
        return x.clear();
    }

    /** Three units in each of hours 0 and 3; of the other side two cheap ones, then two that make the prices 60 and 10. */
    private static int twoHours(boolean isBuy, int price) {
        GridMarket x = Markets.fresh();
        x.bid(0, 0, 0, !isBuy, isBuy ? 20 : 70, 2);
        x.bid(0, 0, 0, !isBuy, 60, 2);
        x.bid(0, 0, 3, !isBuy, isBuy ? 5 : 40, 2);
        x.bid(0, 0, 3, !isBuy, 10, 2);
        x.block(2, 0, 9, isBuy, price, 3);
        return x.clear();
    }

    private void bestSets() {
        edges.says(CLEARING, "To clear a day is to find, among the sets of blocks that are allowed and possible, and in which no block "
            + "loses, the one with the most worth, all hours and blocks together, the worth of a block being its price times its "
            + "units times its hours, less than 0 for one that sells; of several the one whose blocks, block b counting 2 to the "
            + "power of b, are the least number.");
        edges.due("two alike: the first one", setOfTwo(10, 10), 1);
        edges.due("the second one is worth one more for each unit", setOfTwo(10, 9), 2);
        edges.due("the first one is worth one more for each unit", setOfTwo(9, 10), 1);
        edges.due("the first one loses", setOfTwo(61, 60), 0);
        GridMarket nothing = Markets.fresh();
        nothing.block(0, 0, 1, false, 50, 5);
        nothing.block(1, 0, 1, true, 50, 5);
        edges.due("two that are worth nothing together", nothing.clear(), 0);
        edges.due("are not taken", nothing.isTaken(0), false);
        GridMarket one = Markets.fresh();
        one.block(0, 0, 1, false, 50, 1);
        one.block(1, 0, 1, true, 51, 1);
        edges.due("two that are worth 1 together", one.clear(), 0);
        edges.due("the price is 0, so the one to sell loses", one.isTaken(0), false);
        GridMarket most = Markets.fresh();
        for (int hour = 0; hour < 4; hour++) {
            most.bid(0, 0, hour, false, 0, 10);
        }
        most.block(1, 0, 15, true, 200, 10);
        edges.due("the most that a block can be worth", most.clear(), 200 * 10 * 4);
        GridMarket last = Markets.fresh();
        last.bid(0, 0, 0, true, 60, 10);
        for (int n = 0; n < 5; n++) {
            last.block(n, 0, 1, false, 50 - n, 9);
        }
        edges.due("only the last of five", last.clear(), 9 * 14);
        edges.due("it is taken", last.isTaken(4), true);
    }

    /** Only one of the two blocks fits; the price is 60. */
    private static int setOfTwo(int first, int second) {
        GridMarket x = Markets.fresh();
        x.bid(0, 0, 0, true, 60, 10);
        x.block(1, 0, 1, false, first, 9);
        x.block(2, 0, 1, false, second, 9);
        x.clear();
        return (x.isTaken(0) ? 1 : 0) + (x.isTaken(1) ? 2 : 0);
    }

    private void emptySet() {
        edges.says(CLEARING, "(The empty set is always so.)");
        edges.due("nothing at all", Markets.fresh().clear(), 0);
        edges.due("all limits 0", Markets.limits(0, 0, 0).clear(), 0);
        GridMarket losers = Markets.limits(0, 0, 0);
        for (int n = 0; n < 5; n++) {
            losers.block(n, n % 3, 15, n % 2 == 0, 100, 10);
        }
        edges.due("five blocks that nobody meets", losers.clear(), 0);
        for (int n = 0; n < 5; n++) {
            edges.due("none is taken", losers.isTaken(n), false);
        }
    }

    private void payments() {
        edges.says(CLEARING, "Who sells gets the price of the zone for each unit that is taken, who buys pays it.");
        GridMarket x = bidsOf(new int[] {10, 4}, new int[] {50, 3, 30, 2});
        x.block(2, 0, 1, true, 40, 1);
        edges.due("worth", x.clear(), 150 + 40 - 40);
        edges.due("price", x.price(0, 0), 30);
        x.close();
        edges.due("who sells for less", x.bill(0, 0), 4 * 30);
        edges.due("who buys for more, and what is not taken", x.bill(0, 1), -3 * 30);
        edges.due("who buys by a block", x.bill(0, 2), -30);
        GridMarket zero = bidsOf(new int[] {0, 9}, new int[] {50, 3});
        Markets.endDay(zero);
        edges.due("who sells at the price 0", zero.bill(0, 0), 0);
        edges.due("who buys at the price 0", zero.bill(0, 1), 0);
    }

    private void fewAsks() {
        edges.says(RIGHTS, "While a day is open for bids, firms may ask for rights from a zone to another one, for some units and a price; "
            + "there are at most 20 such asks in a day.");
        edges.due("the first", Markets.fresh().ask(0, 0, 1, 1, 0), 0);
        edges.due("the 20th", Markets.asks(19).ask(0, 0, 1, 1, 0), 19);
        edges.refused("the 21st", Checks.STATE, () -> Markets.asks(20), x -> x.ask(0, 0, 1, 1, 0));
        edges.refused("open for offers", Checks.STATE, Markets::cleared, x -> x.ask(0, 0, 1, 1, 0));
    }

    /** Asks of firms 0, 1 and so on from zone 0 to 1, units and price each, by a limit; cleared. */
    private static GridMarket asked(int limit, int... unitsAndPrices) {
        GridMarket x = Markets.limits(limit, 10, 10);
        for (int n = 0; n + 1 < unitsAndPrices.length; n += 2) {
            x.ask(n / 2, 0, 1, unitsAndPrices[n], unitsAndPrices[n + 1]);
        }
        x.clear();
        return x;
    }

    private void given(String what, GridMarket x, int... want) {
        for (int n = 0; n < want.length; n++) {
            edges.due(what + ", ask " + n, x.given(n), want[n]);
        }
    }

    private void givenUnits() {
        edges.says(RIGHTS, "When it is cleared, for each two zones, one way, as many units are given as the limit of the line between "
            + "them: the asks by falling prices, earlier ones first, the last one perhaps in part.");
        given("limit 0", asked(0, 1, 500), 0);
        given("as many as asked for", asked(3, 3, 5), 3);
        given("one less than the limit", asked(3, 2, 5), 2);
        given("one more than the limit", asked(3, 4, 5), 3);
        given("the greatest limit", asked(10, 10, 5, 1, 4), 10, 0);
        given("dearer ones first", asked(3, 2, 20, 2, 30), 1, 2);
        given("dearer by one first", asked(3, 3, 20, 3, 21), 0, 3);
        given("earlier ones of a price first", asked(3, 2, 20, 2, 20, 2, 20), 2, 1, 0);
        given("the price 0", asked(3, 2, 0, 2, 0), 2, 1);
        GridMarket ways = Markets.limits(1, 2, 3);
        int[] from = {0, 1, 1, 2, 0, 2};
        int[] to = {1, 0, 2, 1, 2, 0};
        for (int n = 0; n < 6; n++) {
            ways.ask(0, from[n], to[n], 10, 7);
        }
        ways.clear();
        given("each way by the limit of its own line", ways, 1, 1, 2, 2, 3, 3);
        GridMarket anew = asked(3, 2, 20);
        anew.close();
        anew.setLimit(0, 1);
        anew.ask(0, 0, 1, 2, 20);
        anew.clear();
        given("the limit of the next day", anew, 1);
    }

    private void cost(String what, GridMarket x, int... want) {
        x.close();
        for (int firm = 0; firm < want.length; firm++) {
            edges.due(what + ", firm " + firm, x.bill(0, firm), -want[firm]);
        }
    }

    private void costs() {
        edges.says(RIGHTS, "All that are given for these zones cost the price of the last ask that got some, for each unit, if not all "
            + "that were asked for were given; otherwise they cost nothing.");
        cost("exactly all", asked(3, 2, 30, 1, 20), 0, 0);
        cost("one unit too many", asked(3, 2, 30, 2, 20), 40, 20);
        cost("one unit too many, of one ask", asked(3, 4, 30), 90);
        cost("the last one got nothing: the one ahead of it counts", asked(3, 3, 30, 1, 20), 90, 0);
        cost("the last that got some asked for 0", asked(3, 2, 30, 2, 0), 0, 0);
        cost("the greatest price", asked(10, 10, 500, 1, 500), 5000, 0);
        cost("none given", asked(0, 10, 500), 0);
        GridMarket other = Markets.limits(3, 10, 10);
        other.ask(0, 0, 1, 3, 30);
        other.ask(1, 1, 0, 4, 20);
        other.clear();
        cost("the other way counts for itself", other, 0, 60);
    }

    private void differences() {
        edges.says(RIGHTS, "A right gives for each unit and hour what the price of the zone to which it is is more than that of the zone "
            + "from which it is, if it is more.");
        GridMarket x = Markets.limits(2, 0, 5);
        int[] from = {0, 1, 2, 0};
        int[] to = {7, 2, 2, 9};
        for (int hour = 0; hour < 4; hour++) {
            x.bid(5, 0, hour, true, from[hour], 1);
            x.bid(5, 1, hour, true, to[hour], 1);
        }
        x.ask(0, 0, 1, 2, 100);
        x.ask(1, 1, 0, 2, 100);
        x.ask(2, 0, 2, 1, 100);
        x.ask(3, 2, 0, 1, 100);
        x.clear();
        for (int hour = 0; hour < 4; hour++) {
            edges.due("price of zone 0", x.price(0, hour), from[hour]);
            edges.due("price of zone 1", x.price(1, hour), to[hour]);
            edges.due("price of zone 2", x.price(2, hour), 0);
        }
        x.close();
        edges.due("more by 7, 1, 0 and 9, two units", x.bill(0, 0), 34);
        edges.due("the other way it is never more", x.bill(0, 1), 0);
        edges.due("to a zone of the price 0", x.bill(0, 2), 0);
        edges.due("from a zone of the price 0", x.bill(0, 3), 3);
        x.setLimit(1, 0);
        x.bid(5, 0, 3, true, 1, 1);
        x.ask(0, 0, 1, 1, 5);
        x.ask(1, 1, 0, 1, 5);
        Markets.endDay(x);
        edges.due("less by one gives nothing", x.bill(1, 0), 0);
        edges.due("more by one", x.bill(1, 1), 1);
    }
}
