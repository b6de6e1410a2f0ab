/** The edges of "Offers", "Balancing" and "Settlement". */
final class EdgesOfBalance {
    private static final String OFFERS = "Offers";
    private static final String BALANCING = "Balancing";
    private static final String SETTLEMENT = "Settlement";
    private static final String TRADES = "An offer that comes trades with offers of the other side in the same hour that rest and are as "
        + "good as it, or better: by the best price, earlier ones first, in any zone, each being looked at once; but one is passed "
        + "over, of which not a single unit can be traded by the limits: the net of the zone of the one who sells becomes more by "
        + "each unit, that of the one who buys less.";
    private static final String TOO_LITTLE = "If the gap of an hour is below 0, aids that give more are used, by rising prices, earlier "
        + "ones first, as far as the gap goes, and the price of the gap is the greatest price used, but 300, if they do not suffice; "
        + "and at least the greatest price of a zone in that hour.";
    private final Edges edges;

    EdgesOfBalance(Edges edges) {
        this.edges = edges;
    }

    void check() {
        fewOffers();
        goodEnough();
        bestFirst();
        passedOver();
        onceLooked();
        units();
        ownOffers();
        plansAndReadings();
        fewAids();
        tooLittle();
        tooLittlePaid();
        tooMuch();
        tooMuchPaid();
        noGap();
        bills();
        runs();
        failing();
        failingInARow();
        sharing();
        farShares();
        theFailed();
    }

    private void fewOffers() {
        edges.says(OFFERS, "Behind the clearing firms trade by offers, in a zone and an hour, to buy or to sell some units for a price, "
            + "at most 60 in a day, numbered from 0.");
        edges.refused("ahead of the clearing", Checks.STATE, Markets::fresh, x -> x.offer(0, 0, 0, true, 1, 1));
        edges.due("the first", Markets.cleared().offer(0, 0, 0, true, 1, 1), 0);
        edges.due("the 60th", Markets.offers(59).offer(0, 0, 0, true, 0, 1), 59);
        edges.refused("the 61st", Checks.STATE, () -> Markets.offers(60), x -> x.offer(0, 0, 0, true, 0, 1));
    }

    /** What is left of an offer of one unit that comes to one that rests. */
    private static int leftOf(boolean isBuy, int resting, int coming, int hour) {
        GridMarket x = Markets.cleared();
        x.offer(0, 0, 0, !isBuy, resting, 1);
        x.offer(1, 0, hour, isBuy, coming, 1);
        return x.left(1);
    }

    private void goodEnough() {
        edges.says(OFFERS, TRADES);
        edges.due("buys for one less than is asked", leftOf(true, 30, 29, 0), 1);
        edges.due("buys for as much", leftOf(true, 30, 30, 0), 0);
        edges.due("buys for one more", leftOf(true, 30, 31, 0), 0);
        edges.due("sells for one more than is paid", leftOf(false, 30, 31, 0), 1);
        edges.due("sells for as much", leftOf(false, 30, 30, 0), 0);
        edges.due("sells for one less", leftOf(false, 30, 29, 0), 0);
        edges.due("both for 0", leftOf(true, 0, 0, 0), 0);
        edges.due("both for 300", leftOf(false, 300, 300, 0), 0);
        edges.due("sells for 300 what is bought for 299", leftOf(false, 299, 300, 0), 1);
        for (int hour = 1; hour < 4; hour++) {
            edges.due("in hour " + hour, leftOf(true, 0, 300, hour), 1);
        }
        GridMarket x = Markets.cleared();
        x.offer(0, 0, 0, true, 300, 1);
        edges.due("nothing rests on the other side", x.offer(1, 0, 0, true, 300, 1), 1);
        edges.due("of the same side", x.left(1), 1);
        x.takeBack(0);
        x.takeBack(1);
        x.offer(2, 0, 0, false, 0, 1);
        edges.due("what was taken back does not rest", x.left(2), 1);
    }

    private void bestFirst() {
        edges.says(OFFERS, TRADES);
        for (boolean isBuy : new boolean[] {false, true}) {
            GridMarket x = Markets.cleared();
            int one = isBuy ? -1 : 1;
            x.offer(0, 2, 0, !isBuy, 50, 1);
            x.offer(1, 0, 0, !isBuy, 50 + one, 1);
            x.offer(2, 1, 0, !isBuy, 50 + one, 1);
            x.offer(3, 0, 0, !isBuy, 50 - one, 1);
            int[] order = {1, 2, 0};
            for (int n = 0; n < 3; n++) {
                x.offer(5, 0, 0, isBuy, 50, 1);
                edges.due("number " + n + " by price, then by number, whatever its zone", x.left(order[n]), 0);
                for (int later = n + 1; later < 3; later++) {
                    edges.due("not yet the next ones", x.left(order[later]), 1);
                }
            }
            x.offer(5, 0, 0, isBuy, 50, 1);
            edges.due("worse by one than asked", x.left(3), 1);
        }
    }

    private void passedOver() {
        edges.says(OFFERS, TRADES);
        GridMarket x = Markets.limits(1, 10, 10);
        x.clear();
        x.offer(0, 0, 0, false, 10, 2);
        x.offer(1, 2, 0, false, 20, 10);
        x.offer(2, 1, 0, false, 30, 10);
        x.offer(5, 1, 0, true, 30, 5);
        edges.due("one unit of the best: two thirds of three", x.left(0), 1);
        edges.due("one unit of the next: the last third", x.left(1), 9);
        edges.due("the rest in its own zone", x.left(2), 7);
        x.offer(5, 1, 0, true, 30, 1);
        edges.due("not a single unit of the best", x.left(0), 1);
        edges.due("nor of the next", x.left(1), 9);
        edges.due("so of the third", x.left(2), 6);
        x.offer(5, 0, 0, true, 30, 1);
        edges.due("in the zone of the best the limits let it", x.left(0), 0);
        GridMarket y = Markets.limits(0, 0, 0);
        y.clear();
        for (int zone = 0; zone < 3; zone++) {
            y.offer(zone, zone, 0, false, 10, 1);
        }
        y.offer(5, 2, 0, true, 10, 3);
        edges.due("limits 0: only in its own zone", y.left(3), 2);
        edges.due("that one", y.left(2), 0);
        edges.due("net", y.net(2, 0), 0);
    }

    private void onceLooked() {
        edges.says(OFFERS, "each being looked at once");
        GridMarket x = Markets.limits(10, 10, 1);
        x.clear();
        x.offer(0, 0, 0, false, 10, 2);
        x.offer(1, 2, 0, true, 10, 1);
        x.offer(1, 1, 0, true, 10, 1);
        edges.due("line 2 is full", x.flow(2, 0), 3);
        x.offer(2, 0, 0, false, 10, 5);
        x.offer(3, 2, 0, false, 12, 2);
        x.offer(4, 1, 0, true, 20, 5);
        edges.due("the dearer one frees the line", x.flow(2, 0), 1);
        edges.due("the cheaper one was looked at before that", x.left(3), 5);
        edges.due("so this rests", x.left(5), 3);
    }

    private void units() {
        edges.says(OFFERS, "It trades as many units with each as both have left and the limits let, at the price of the one that rests; "
            + "what is left of it rests in the end.");
        for (int coming : new int[] {1, 4, 5, 6, 10}) {
            GridMarket x = Markets.cleared();
            x.offer(0, 0, 0, false, 20, 5);
            x.offer(1, 0, 0, true, 25, coming);
            edges.due("left of 5 for " + coming, x.left(0), Math.max(0, 5 - coming));
            edges.due("left of " + coming, x.left(1), Math.max(0, coming - 5));
            x.offer(2, 0, 0, false, 25, 1);
            edges.due("the rest of " + coming + " rests", x.left(1), Math.max(0, coming - 6));
            x.close();
            edges.due("at the price of the one that rests", x.bill(0, 0), 20 * Math.min(5, coming));
            edges.due("at its own price when it rests", x.bill(0, 2), coming > 5 ? 25 : 0);
        }
        GridMarket y = Markets.limits(1, 10, 10);
        y.clear();
        y.offer(0, 0, 0, false, 20, 5);
        y.offer(1, 2, 0, true, 25, 5);
        edges.due("three thirds let three units round about", y.left(1), 2);
        y.offer(1, 0, 0, true, 25, 1);
        edges.due("what is left of the one that rests", y.left(0), 1);
    }

    private void ownOffers() {
        edges.says(OFFERS, "Firms do not trade with themselves; such an offer is passed over.");
        GridMarket x = Markets.cleared();
        x.offer(0, 0, 0, false, 10, 5);
        x.offer(0, 0, 0, true, 30, 5);
        edges.due("only its own", x.left(0) + x.left(1), 10);
        x.offer(1, 0, 0, false, 20, 2);
        edges.due("both rest: another firm's meets the one to buy", x.left(1), 3);
        x.offer(1, 0, 0, true, 10, 2);
        edges.due("and the one to sell", x.left(0), 3);
        x.offer(2, 0, 0, false, 25, 1);
        edges.due("plan", x.plan(0, 0, 0, 0), 2 - 3);
        x.takeBack(1);
        x.offer(3, 0, 0, false, 12, 1);
        x.offer(0, 0, 0, true, 30, 2);
        edges.due("its own, better one is passed over", x.left(0), 3);
        edges.due("the next one is not", x.left(5), 0);
        edges.due("the rest", x.left(6), 1);
    }

    private void plansAndReadings() {
        edges.says(BALANCING, "A firm has a plan in a zone and an hour: what it sells less what it buys there, by clearing and offers.");
        GridMarket x = Markets.toBeSold();
        x.block(0, 0, 1, true, 30, 1);
        x.clear();
        x.offer(0, 0, 0, false, 1, 3);
        x.offer(2, 0, 0, true, 1, 2);
        edges.due("6 by bids, less 1 by a block, 2 by an offer", x.plan(0, 0, 0, 0), 6 - 1 + 2);
        edges.due("what rests is no plan", x.plan(0, 2, 0, 0), -2);
        x.close();
        edges.says(BALANCING, "A reading tells what it really gave; without one it is the plan.");
        edges.due("no reading at all", x.gap(0, 0), 0);
        edges.due("a reading of the plan", x.read(0, 0, 0, 0, 7), 0);
        edges.due("no gap by it", x.gapPrice(0, 0), GridMarket.NONE);
        edges.says(BALANCING, "What it gave less its plan is its gap.");
        edges.due("one less", x.read(0, 0, 0, 0, 6), -1);
        edges.due("one more", x.read(0, 0, 0, 0, 8), 1);
        edges.due("nothing", x.read(0, 0, 0, 0, 0), -7);
        edges.due("one less than is bought", x.read(0, 2, 0, 0, -1), 1);
        edges.due("where there is no plan", x.read(0, 5, 2, 3, 0), 0);
        edges.says(BALANCING, "The gap of an hour is that of all firms and zones, together.");
        edges.due("two firms", x.gap(0, 0), -6);
        x.read(0, 5, 2, 0, 6);
        edges.due("another zone", x.gap(0, 0), 0);
        x.read(0, 5, 1, 0, 1);
        edges.due("a third zone", x.gap(0, 0), 1);
        edges.due("another hour", x.gap(0, 3), 0);
    }

    private void fewAids() {
        edges.says(BALANCING, "Until the day is closed firms may tell for an hour that they would give more, or less, up to some units for "
            + "a price: at most 30 such aids in a day, numbered from 0.");
        edges.due("the first", Markets.fresh().aid(0, 0, true, 0, 1), 0);
        edges.due("the 30th", Markets.aids(29).aid(0, 0, true, 0, 1), 29);
        edges.refused("the 31st", Checks.STATE, () -> Markets.aids(30), x -> x.aid(0, 0, true, 0, 1));
        GridMarket x = Markets.fresh();
        x.clear();
        x.aid(0, 0, true, 60, 10);
        x.close();
        x.aid(1, 0, true, 50, 10);
        x.read(0, 5, 0, 0, -1);
        edges.due("an aid behind the clearing is used", x.gapPrice(0, 0), 60);
        edges.due("one of the next day is not", x.bill(0, 1), 0);
        edges.due("up to some units", x.bill(0, 0), 60);
    }

    /** The prices of the zones 0, 1, 2 in hour 0 are 20, 30 and 40; firm 5 has no plan. */
    private static GridMarket pricedZones() {
        GridMarket x = Markets.limits(0, 0, 0);
        for (int zone = 0; zone < 3; zone++) {
            x.bid(4, zone, 0, true, 20 + 10 * zone, 10);
        }
        return x;
    }

    /** The price of a gap that one reading makes. */
    private static int priceOf(GridMarket x, int gap) {
        x.read(0, 5, 0, 0, gap);
        return x.gapPrice(0, 0);
    }

    private void tooLittle() {
        edges.says(BALANCING, TOO_LITTLE);
        GridMarket x = pricedZones();
        x.aid(0, 0, true, 50, 2);
        x.aid(1, 0, true, 39, 1);
        x.aid(2, 0, true, 50, 2);
        x.aid(3, 0, true, 41, 1);
        x.aid(3, 0, false, 299, 10);
        x.aid(3, 1, true, 299, 10);
        Markets.endDay(x);
        edges.due("1 unit, for less than the greatest price of a zone", priceOf(x, -1), 40);
        edges.due("2 units", priceOf(x, -2), 41);
        edges.due("3 units", priceOf(x, -3), 50);
        edges.due("who asked for less gets that, too", x.bill(0, 1), 50);
        edges.due("the earlier one of a price, in part", x.bill(0, 0), 50);
        edges.due("not the later one", x.bill(0, 2), 0);
        edges.due("5 units", priceOf(x, -5), 50);
        edges.due("the earlier one, all of it", x.bill(0, 0), 100);
        edges.due("the later one, in part", x.bill(0, 2), 50);
        edges.due("6 units: they just suffice", priceOf(x, -6), 50);
        edges.due("7 units: they do not", priceOf(x, -7), 300);
        edges.due("all of the later one, for 300", x.bill(0, 2), 600);
        edges.due("aids for less, and of another hour, are not used", x.bill(0, 3), 300);
        edges.due("200 units", priceOf(x, -200), 300);
        boundsOfTooLittle();
    }

    private void boundsOfTooLittle() {
        GridMarket full = Markets.fresh();
        for (int n = 0; n < 30; n++) {
            full.aid(n % 5, 0, true, 10 + n, 10);
        }
        Markets.endDay(full);
        full.read(0, 5, 1, 0, -100);
        edges.due("30 aids of 10 units just suffice", priceOf(full, -200), 39);
        full.read(0, 5, 1, 0, -101);
        edges.due("they do not", priceOf(full, -200), 300);
        edges.due("all of them are used", full.bill(0, 0), 6 * 10 * 300);
        GridMarket none = pricedZones();
        Markets.endDay(none);
        edges.due("no aids", priceOf(none, -1), 300);
        for (int price : new int[] {0, 39, 40, 41, 300}) {
            GridMarket x = pricedZones();
            x.aid(0, 0, true, price, 1);
            Markets.endDay(x);
            edges.due("an aid for " + price, priceOf(x, -1), Math.max(40, price));
        }
        GridMarket dear = Markets.limits(5, 5, 0);
        dear.bid(4, 0, 0, false, 20, 1);
        dear.bid(4, 1, 0, true, 200, 10);
        dear.clear();
        edges.due("a price of a zone above 300", dear.price(2, 0), 380);
        dear.close();
        edges.due("bounds the 300, too", priceOf(dear, -1), 380);
    }

    private void tooLittlePaid() {
        edges.says(BALANCING, "Firms with a gap below 0 in a zone pay this for each unit, those with one above 0 get the price of their "
            + "zone; each unit used gets the price of the gap.");
        GridMarket x = pricedZones();
        x.aid(0, 0, true, 60, 10);
        Markets.endDay(x);
        x.read(0, 1, 0, 0, -3);
        x.read(0, 2, 1, 0, 1);
        x.read(0, 3, 2, 0, 1);
        edges.due("price", x.gapPrice(0, 0), 60);
        edges.due("three units below 0", x.bill(0, 1), -180);
        edges.due("one above 0 in zone 1", x.bill(0, 2), 30);
        edges.due("one above 0 in zone 2", x.bill(0, 3), 40);
        edges.due("one unit used", x.bill(0, 0), 60);
        x.read(0, 1, 1, 0, 1);
        x.read(0, 1, 2, 0, -1);
        edges.due("each zone of a firm for itself", x.bill(0, 1), -180 + 30 - 60);
        x.read(0, 0, 0, 0, -1);
        edges.due("one with a gap and an aid", x.bill(0, 0), -60 + 2 * 60);
    }

    private void tooMuch() {
        edges.says(BALANCING, "If the gap is above 0, aids that give less are used, by falling prices, earlier ones first, and the price of "
            + "the gap is the least price used, but 0, if they do not suffice; and at most the least price of a zone in that hour.");
        GridMarket x = pricedZones();
        x.aid(0, 0, false, 10, 2);
        x.aid(1, 0, false, 21, 1);
        x.aid(2, 0, false, 10, 2);
        x.aid(3, 0, false, 19, 1);
        x.aid(3, 0, true, 1, 10);
        x.aid(3, 1, false, 1, 10);
        Markets.endDay(x);
        edges.due("1 unit, for more than the least price of a zone", priceOf(x, 1), 20);
        edges.due("2 units", priceOf(x, 2), 19);
        edges.due("3 units", priceOf(x, 3), 10);
        edges.due("who offered more pays that, too", x.bill(0, 1), -10);
        edges.due("the earlier one of a price, in part", x.bill(0, 0), -10);
        edges.due("not the later one", x.bill(0, 2), 0);
        edges.due("5 units", priceOf(x, 5), 10);
        edges.due("the earlier one, all of it", x.bill(0, 0), -20);
        edges.due("the later one, in part", x.bill(0, 2), -10);
        edges.due("6 units: they just suffice", priceOf(x, 6), 10);
        edges.due("all of the later one", x.bill(0, 2), -20);
        edges.due("7 units: they do not", priceOf(x, 7), 0);
        edges.due("all of the later one, for nothing", x.bill(0, 2), 0);
        edges.due("aids for more, and of another hour, are not used", x.bill(0, 3), 0);
        edges.due("200 units", priceOf(x, 200), 0);
        boundsOfTooMuch();
    }

    private void boundsOfTooMuch() {
        GridMarket full = pricedZones();
        for (int n = 0; n < 30; n++) {
            full.aid(n % 5, 0, false, 39 - n, 10);
        }
        Markets.endDay(full);
        full.read(0, 5, 1, 0, 100);
        edges.due("30 aids of 10 units just suffice", priceOf(full, 200), 10);
        edges.due("all of them are used", full.bill(0, 0), -6 * 10 * 10);
        full.read(0, 5, 1, 0, 101);
        edges.due("they do not", priceOf(full, 200), 0);
        GridMarket none = pricedZones();
        Markets.endDay(none);
        edges.due("no aids", priceOf(none, 1), 0);
        for (int price : new int[] {0, 19, 20, 21, 300}) {
            GridMarket x = pricedZones();
            x.aid(0, 0, false, price, 1);
            Markets.endDay(x);
            edges.due("an aid for " + price, priceOf(x, 1), Math.min(20, price));
        }
    }

    private void tooMuchPaid() {
        edges.says(BALANCING, "Firms with a gap above 0 in a zone get this for each unit, those with one below 0 pay the price of their "
            + "zone; each unit used pays the price of the gap.");
        GridMarket x = pricedZones();
        x.aid(0, 0, false, 15, 10);
        Markets.endDay(x);
        x.read(0, 1, 0, 0, 3);
        x.read(0, 2, 1, 0, -1);
        x.read(0, 3, 2, 0, -1);
        edges.due("price", x.gapPrice(0, 0), 15);
        edges.due("three units above 0", x.bill(0, 1), 45);
        edges.due("one below 0 in zone 1", x.bill(0, 2), -30);
        edges.due("one below 0 in zone 2", x.bill(0, 3), -40);
        edges.due("one unit used", x.bill(0, 0), -15);
        x.read(0, 1, 1, 0, -1);
        x.read(0, 1, 2, 0, 1);
        edges.due("each zone of a firm for itself", x.bill(0, 1), 45 - 30 + 15);
        x.read(0, 0, 0, 0, 1);
        edges.due("one with a gap and an aid", x.bill(0, 0), 15 - 2 * 15);
    }

    private void noGap() {
        edges.says(BALANCING, "If it is 0, all pay and get the price of their zone.");
        GridMarket x = pricedZones();
        x.aid(0, 0, true, 60, 10);
        x.aid(0, 0, false, 15, 10);
        Markets.endDay(x);
        x.read(0, 1, 0, 0, 200);
        x.read(0, 2, 1, 0, -199);
        x.read(0, 3, 2, 0, -1);
        edges.due("gap", x.gap(0, 0), 0);
        edges.due("price", x.gapPrice(0, 0), GridMarket.NONE);
        edges.due("above 0 in zone 0", x.bill(0, 1), 200 * 20);
        edges.due("below 0 in zone 1", x.bill(0, 2), -199 * 30);
        edges.due("below 0 in zone 2", x.bill(0, 3), -40);
        edges.due("no aid is used", x.bill(0, 0), 0);
    }

    private void bills() {
        edges.says(SETTLEMENT, "The bill of a firm for a closed day is all that it gets by that day, by clearing, rights, offers and "
            + "balancing, less all that it pays, by the readings there are.");
        GridMarket x = Markets.limits(2, 0, 5);
        x.bid(0, 1, 0, false, 10, 4);
        x.bid(1, 1, 0, true, 30, 3);
        x.ask(0, 0, 1, 1, 7);
        x.ask(1, 0, 1, 2, 6);
        x.aid(0, 0, true, 50, 1);
        x.clear();
        edges.due("price of zone 1", x.price(1, 0), 10);
        edges.due("price of zone 0", x.price(0, 0), 0);
        x.offer(0, 1, 0, false, 12, 2);
        x.offer(1, 1, 0, true, 13, 2);
        x.close();
        x.read(0, 1, 1, 0, -6);
        edges.due("3 by clearing, a right less its cost, 2 by offers, an aid", x.bill(0, 0), 30 + (10 - 6) + 24 + 50);
        edges.due("the other way, and a gap", x.bill(0, 1), -30 + (10 - 6) - 24 - 50);
        x.read(0, 1, 1, 0, -5);
        edges.due("by another reading", x.bill(0, 0), 30 + 4 + 24);
        edges.due("of the other one", x.bill(0, 1), -30 + 4 - 24);
    }

    private void runs() {
        edges.says(SETTLEMENT, "A run settles a closed day; there are at most 3 for each.");
        edges.due("the third", Markets.runs(2).run(0), 0);
        edges.refused("the fourth", Checks.STATE, () -> Markets.runs(3), x -> x.run(0));
        edges.refused("of a day that is not closed", Checks.INDEX, Markets::cleared, x -> x.run(0));
        edges.says(SETTLEMENT, "By a run each firm gets what its bill is more than all that it got for this day by runs before, or pays what "
            + "it is less; the house gets what they all pay, less what they all get.");
        GridMarket x = Markets.sold();
        for (int firm = 0; firm < 6; firm++) {
            x.deposit(firm, 1000);
        }
        x.run(0);
        money(x, "the first run", 1050, 950, 0);
        x.run(0);
        money(x, "the second run, the bills being the same", 1050, 950, 0);
        x.read(0, 0, 0, 0, 3);
        money(x, "a reading alone", 1050, 950, 0);
        x.run(0);
        money(x, "two units less by the third run", 450, 950, 600);
        GridMarket y = Markets.sold();
        y.deposit(1, 1000);
        y.read(0, 1, 0, 0, -7);
        y.run(0);
        money(y, "a gap of -2 by the first run", 50, 350, 600);
        y.read(0, 1, 0, 0, -5);
        y.run(0);
        money(y, "none by the second", 50, 950, 0);
        y.read(0, 1, 0, 0, -6);
        y.run(0);
        money(y, "-1 by the third", 50, 650, 300);
    }

    private void money(GridMarket x, String what, int first, int second, int house) {
        edges.due(what + ", account 0", x.account(0), first);
        edges.due(what + ", account 1", x.account(1), second);
        edges.due(what + ", house", x.house(), house);
    }

    private void failing() {
        edges.says(SETTLEMENT, "Then firms fail: as long as some firm that has not failed has an account below 0, the one of these with the "
            + "lowest number fails: what its account is below 0 is the loss, and its account is 0.");
        for (int deposit = 49; deposit <= 51; deposit++) {
            GridMarket x = Markets.sold();
            x.deposit(1, deposit);
            edges.due("deposited " + deposit + " of 50", x.run(0), deposit < 50 ? 1 : 0);
            edges.due("account then", x.account(1), Math.max(0, deposit - 50));
            edges.due("house then", x.house(), Math.min(0, deposit - 50));
            edges.due("hasFailed", x.hasFailed(1), deposit < 50);
        }
        edges.due("an account of 0 at first does not fail", Markets.nextDay().run(0), 0);
        GridMarket late = Markets.sold();
        edges.due("not ahead of a run", late.hasFailed(1), false);
        late.read(0, 1, 0, 0, -200);
        edges.due("nor by a reading", late.hasFailed(1), false);
        GridMarket other = Markets.nextDay();
        other.read(0, 3, 0, 0, -1);
        Markets.endDay(other);
        edges.due("by a run of another day nobody fails", other.run(1), 0);
        edges.due("by its own run one does", other.run(0), 1);
    }

    private void failingInARow() {
        edges.says(SETTLEMENT, "the one of these with the lowest number fails");
        GridMarket x = Markets.nextDay();
        x.deposit(1, 300);
        x.deposit(2, 100);
        x.read(0, 0, 0, 0, -1);
        x.read(0, 1, 0, 0, -1);
        // Firm 0 fails by 300: 1 gives 225, 2 gives 75. Then 1 fails by 225: 2 gives all. Then 2 fails by 200.
        edges.due("one lets the next one fail", x.run(0), 3);
        for (int firm = 0; firm < 6; firm++) {
            edges.due("hasFailed", x.hasFailed(firm), firm < 3);
            edges.due("account", x.account(firm), 0);
        }
        edges.due("house", x.house(), 600 - 200);
        GridMarket y = Markets.nextDay();
        y.deposit(2, 100);
        y.deposit(4, 300);
        y.read(0, 3, 0, 0, -2);
        y.read(0, 5, 0, 0, -1);
        // Firm 3 fails by 600: 2 gives 150, 4 gives 450. Then firm 2 by 50, ahead of 4 and 5: 4 gives 50. Then 4 by 200, 5 by 300.
        edges.due("a lower one that falls below 0 comes ahead of a higher one", y.run(0), 4);
        edges.due("house", y.house(), 900 - 200 - 300);
        GridMarket z = Markets.nextDay();
        z.deposit(0, 101);
        z.deposit(5, 99);
        z.read(0, 3, 0, 0, -1);
        // Firm 3 fails by 300: 0 gives 151, 5 gives 148, the house 1. Then 0 fails by 50: 5 gives it. Then 5 by 99.
        edges.due("both that share fail", z.run(0), 3);
        edges.due("house of that", z.house(), 300 - 1 - 99);
    }

    private void sharing() {
        edges.says(SETTLEMENT, "The loss is shared by the firms that have not failed, by what they have deposited in all: each gives the loss "
            + "times its deposits, divided by all their deposits, rounded down; what is left is given by the house, as is all of it, "
            + "if they have deposited nothing.");
        GridMarket x = Markets.nextDay();
        x.deposit(1, 1000);
        x.deposit(2, 1000);
        x.deposit(4, 1000);
        x.read(0, 0, 0, 0, -1);
        x.run(0);
        edges.due("300 by three: no rest", x.account(1), 900);
        edges.due("house got 300", x.house(), 300);
        GridMarket y = Markets.sold();
        y.deposit(2, 1);
        y.deposit(3, 2);
        y.deposit(3, 998);
        y.run(0);
        edges.due("50 * 1 / 1001", y.account(2), 1);
        edges.due("50 * 1000 / 1001, of two deposits", y.account(3), 951);
        edges.due("who deposited nothing gives nothing", y.account(0), 50);
        edges.due("what is left", y.house(), -1);
        GridMarket z = Markets.sold();
        z.deposit(1, 20);
        z.run(0);
        edges.due("only the failed has deposited: its deposits do not count", z.account(0), 50);
        edges.due("all is left for the house", z.house(), -30);
        GridMarket one = Markets.sold();
        one.deposit(2, 1);
        edges.due("one gives all, and fails by it", one.run(0), 2);
        edges.due("its own loss is left for the house", one.house(), -49);
        sharesByDeposits();
    }

    /** Firm 2 has won much, firm 3 has paid much; what counts is what they have deposited. */
    private void sharesByDeposits() {
        GridMarket x = Markets.fresh();
        x.deposit(2, 100);
        x.deposit(3, 1000);
        x.bid(2, 0, 0, false, 0, 10);
        x.bid(3, 0, 0, true, 90, 10);
        x.bid(3, 0, 0, true, 90, 1);
        x.bid(0, 1, 3, true, 110, 2);
        x.bid(4, 1, 3, false, 0, 1);
        Markets.endDay(x);
        edges.due("one fails by 110", x.run(0), 1);
        edges.due("110 * 100 / 1100", x.account(2), 100 + 900 - 10);
        edges.due("110 * 1000 / 1100", x.account(3), 1000 - 900 - 100);
        edges.due("without deposits", x.account(4), 110);
        edges.due("nothing is left", x.house(), 0);
    }

    private void farShares() {
        edges.says(SETTLEMENT, "each gives the loss times its deposits, divided by all their deposits, rounded down");
        GridMarket x = Markets.deposited(100);
        x.deposit(1, 1);
        Markets.endDay(x);
        for (int zone = 0; zone < 3; zone++) {
            for (int hour = 0; hour < 4; hour++) {
                x.read(0, 5, zone, hour, -200);
            }
        }
        edges.due("bill", x.bill(0, 5), -12 * 200 * 300);
        edges.due("one fails by 720000", x.run(0), 1);
        edges.due("720000 * 10000000 / 10000001", x.account(0), 10000000 - 719999);
        edges.due("720000 / 10000001", x.account(1), 1);
        edges.due("the house gives what is left", x.house(), 720000 - 1);
        GridMarket y = Markets.fresh();
        for (int n = 0; n < 400; n++) {
            y.deposit(n % 4, 100000);
        }
        Markets.endDay(y);
        for (int zone = 0; zone < 3; zone++) {
            for (int hour = 0; hour < 4; hour++) {
                y.read(0, 5, zone, hour, -200);
            }
        }
        y.run(0);
        for (int firm = 0; firm < 4; firm++) {
            edges.due("720000 * 10000000 / 40000000", y.account(firm), 10000000 - 180000);
        }
        edges.due("nothing is left", y.house(), 720000);
    }

    private void theFailed() {
        edges.says(SETTLEMENT, "A firm that has failed makes no bids, blocks, asks, offers and aids any more; its bills are the house's: what "
            + "it would get or pay, the house gets or pays.");
        edges.refused("bid", Checks.STATE, Markets::failed, x -> x.bid(0, 0, 0, true, 1, 1));
        edges.refused("block", Checks.STATE, Markets::failed, x -> x.block(0, 0, 1, true, 1, 1));
        edges.refused("ask", Checks.STATE, Markets::failed, x -> x.ask(0, 0, 1, 1, 1));
        edges.refused("offer", Checks.STATE, Markets::failedAndCleared, x -> x.offer(0, 0, 0, true, 1, 1));
        edges.refused("aid", Checks.STATE, Markets::failed, x -> x.aid(0, 0, true, 1, 1));
        edges.taken("another firm may", () -> Markets.failed().bid(1, 0, 0, true, 1, 1));
        for (int given = -3; given <= 3; given++) {
            GridMarket x = Markets.failed();
            x.read(0, 0, 0, 0, given);
            edges.due("run behind its failing", x.run(0), 0);
            edges.due("it neither gets nor pays, having given " + given, x.account(0), 0);
            edges.due("the house is on both sides", x.house(), -50);
            edges.due("the other firm keeps what it has", x.account(1), 50);
        }
        GridMarket sells = Markets.failed();
        sells.read(0, 1, 0, 0, 3);
        sells.read(0, 0, 0, 0, -4);
        edges.due("gap of both", sells.gap(0, 0), -1);
        sells.run(0);
        edges.due("the other firm gets the price of its zone for 2 more", sells.account(1), 150);
        edges.due("the house pays it, for none pays the house", sells.house(), -150);
    }
}
