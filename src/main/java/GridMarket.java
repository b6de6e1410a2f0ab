/** An electricity market of three zones; ../shared/DOC.md says what it promises. */
public final class GridMarket {
    public static final int NONE = -1;
    public static final int BIDS = 0, OFFERS = 1;

    private static final int FIRMS = 6;
    private static final int ZONES = 3;
    private static final int HOURS = 4;
    private static final int DAYS = 10;
    private static final int LINES = 3;
    private static final int FIRST_LIMIT = 5;
    private static final int MOST_LIMIT = 10;
    private static final int MOST_BIDS = 40;
    private static final int MOST_BLOCKS = 5;
    private static final int MOST_ASKS = 20;
    private static final int MOST_OFFERS = 60;
    private static final int MOST_AIDS = 30;
    private static final int MOST_UNITS = 10;
    private static final int MOST_GROUP = 2;
    private static final int MOST_BID_PRICE = 200;
    private static final int MOST_OFFER_PRICE = 300;
    private static final int MOST_ASK_PRICE = 500;
    private static final int MOST_READING = 200;
    private static final int MOST_AMOUNT = 100000;
    private static final int MOST_DEPOSITS = 10000000;
    private static final int MOST_RUNS = 3;
    private static final int PRICE_OF_TOO_LITTLE = 300;
    /** Far below every worth that bids and blocks can have. */
    private static final int IMPOSSIBLE = -1000000000;

    private final Clearing clearing = new Clearing();
    private final Grid grid = clearing.grid;
    private final Orders bids = clearing.bids;
    private final Blocks blocks = clearing.blocks;
    private final Asks asks = new Asks();
    private final Orders offers = new Orders(MOST_OFFERS);
    private final Day[] days = new Day[DAYS];
    private final Accounts accounts = new Accounts();
    private int today = 0;
    private int state = BIDS;

    public GridMarket() {
        for (int day = 0; day < DAYS; day++) {
            days[day] = new Day();
        }
    }

    // ---- firms, lines

    public int deposit(int firm, int amount)
            throws IndexOutOfBoundsException, IllegalArgumentException, IllegalStateException {
        checkIndex(firm, FIRMS);
        checkRange(amount, 1, MOST_AMOUNT);
        checkState(!accounts.isOut[firm] && accounts.deposits[firm] + amount <= MOST_DEPOSITS);
        accounts.deposits[firm] += amount;
        accounts.money[firm] += amount;
        return accounts.money[firm];
    }

    public int setLimit(int line, int limit)
            throws IndexOutOfBoundsException, IllegalArgumentException, IllegalStateException {
        checkIndex(line, LINES);
        checkRange(limit, 0, MOST_LIMIT);
        checkState(state == BIDS);
        int before = grid.limits[line];
        grid.limits[line] = limit;
        return before;
    }

    // ---- bids, blocks, rights

    public int bid(int firm, int zone, int hour, boolean isBuy, int price, int units)
            throws IndexOutOfBoundsException, IllegalArgumentException, IllegalStateException {
        checkIndex(firm, FIRMS);
        checkIndex(zone, ZONES);
        checkIndex(hour, HOURS);
        checkRange(price, 0, MOST_BID_PRICE);
        checkRange(units, 1, MOST_UNITS);
        checkState(!accounts.isOut[firm] && state == BIDS && bids.hasRoom());
        return bids.add(firm, zone, hour, isBuy, price, units);
    }

    public int block(int firm, int zone, int hours, boolean isBuy, int price, int units)
            throws IndexOutOfBoundsException, IllegalArgumentException, IllegalStateException {
        checkIndex(firm, FIRMS);
        checkIndex(zone, ZONES);
        checkRange(hours, 1, (1 << HOURS) - 1);
        checkRange(price, 0, MOST_BID_PRICE);
        checkRange(units, 1, MOST_UNITS);
        checkState(!accounts.isOut[firm] && state == BIDS && blocks.count < MOST_BLOCKS);
        return blocks.add(firm, zone, hours, isBuy, price, units);
    }

    public void link(int block, int to, int group)
            throws IndexOutOfBoundsException, IllegalArgumentException, IllegalStateException {
        checkIndex(block, blocks.count);
        checkRange(to, NONE, block - 1);
        checkRange(group, NONE, MOST_GROUP);
        checkState(state == BIDS);
        blocks.to[block] = to;
        blocks.group[block] = group;
    }

    public int ask(int firm, int from, int to, int units, int price)
            throws IndexOutOfBoundsException, IllegalArgumentException, IllegalStateException {
        checkIndex(firm, FIRMS);
        checkIndex(from, ZONES);
        checkIndex(to, ZONES);
        if (from == to) {
            throw new IllegalArgumentException("a right is from a zone to another one");
        }
        checkRange(units, 1, MOST_UNITS);
        checkRange(price, 0, MOST_ASK_PRICE);
        checkState(!accounts.isOut[firm] && state == BIDS && asks.rows.hasRoom());
        return asks.add(firm, from, to, units, price);
    }

    public int clear()
            throws IllegalStateException {
        checkState(state == BIDS);
        Day now = days[today];
        clearing.clearDay(now);
        takeBids(now);
        takeBlocks(now);
        giveRights(now);
        state = OFFERS;
        return worthTaken();
    }

    // ---- offers, aids, closing

    public int offer(int firm, int zone, int hour, boolean isBuy, int price, int units)
            throws IndexOutOfBoundsException, IllegalArgumentException, IllegalStateException {
        checkIndex(firm, FIRMS);
        checkIndex(zone, ZONES);
        checkIndex(hour, HOURS);
        checkRange(price, 0, MOST_OFFER_PRICE);
        checkRange(units, 1, MOST_UNITS);
        checkState(!accounts.isOut[firm] && state == OFFERS && offers.hasRoom());
        int number = offers.add(firm, zone, hour, isBuy, price, units);
        tradeAll(number);
        return number;
    }

    public int takeBack(int offer)
            throws IndexOutOfBoundsException, IllegalStateException {
        checkIndex(offer, offers.count);
        int rest = offers.rest[offer];
        checkState(rest > 0);
        offers.rest[offer] = 0;
        return rest;
    }

    public int aid(int firm, int hour, boolean isMore, int price, int units)
            throws IndexOutOfBoundsException, IllegalArgumentException, IllegalStateException {
        checkIndex(firm, FIRMS);
        checkIndex(hour, HOURS);
        checkRange(price, 0, MOST_OFFER_PRICE);
        checkRange(units, 1, MOST_UNITS);
        Orders aids = days[today].aids;
        checkState(!accounts.isOut[firm] && aids.hasRoom());
        // Aids that give less go by falling prices, as what is to buy does.
        return aids.add(firm, 0, hour, !isMore, price, units);
    }

    public int close()
            throws IllegalStateException {
        checkState(state == OFFERS && today < DAYS - 1);
        bids.count = 0;
        blocks.count = 0;
        asks.rows.count = 0;
        offers.count = 0;
        today++;
        state = BIDS;
        return today;
    }

    // ---- readings, settlement

    public int read(int day, int firm, int zone, int hour, int units)
            throws IndexOutOfBoundsException, IllegalArgumentException {
        checkIndex(day, today);
        checkIndex(firm, FIRMS);
        checkIndex(zone, ZONES);
        checkIndex(hour, HOURS);
        checkRange(units, -MOST_READING, MOST_READING);
        Day then = days[day];
        int place = placeOf(firm, zone, hour);
        then.gaps[place] = units - then.plans[place];
        return then.gaps[place];
    }

    public int run(int day)
            throws IndexOutOfBoundsException, IllegalStateException {
        checkIndex(day, today);
        Day then = days[day];
        checkState(then.runs < MOST_RUNS);
        then.runs++;
        for (int firm = 0; firm < FIRMS; firm++) {
            // The house stands on both sides of the bill of a firm that has failed: nothing moves.
            if (!accounts.isOut[firm]) {
                int due = then.billOf(firm) - then.paid[firm];
                then.paid[firm] += due;
                accounts.payFromHouse(firm, due);
            }
        }
        return accounts.failAll();
    }

    // ---- what is asked of today

    public int day() {
        return today;
    }

    public int phase() {
        return state;
    }

    public int price(int zone, int hour)
            throws IndexOutOfBoundsException, IllegalStateException {
        checkIndex(zone, ZONES);
        checkIndex(hour, HOURS);
        checkState(state == OFFERS);
        return days[today].prices[spotOf(zone, hour)];
    }

    public int net(int zone, int hour)
            throws IndexOutOfBoundsException, IllegalStateException {
        checkIndex(zone, ZONES);
        checkIndex(hour, HOURS);
        checkState(state == OFFERS);
        return days[today].nets[spotOf(zone, hour)];
    }

    public int flow(int line, int hour)
            throws IndexOutOfBoundsException, IllegalStateException {
        checkIndex(line, LINES);
        checkIndex(hour, HOURS);
        checkState(state == OFFERS);
        int[] nets = days[today].nets;
        return nets[spotOf(lineBegin(line), hour)] - nets[spotOf(lineEnd(line), hour)];
    }

    public int taken(int bid)
            throws IndexOutOfBoundsException, IllegalStateException {
        checkIndex(bid, bids.count);
        checkState(state == OFFERS);
        return bids.used(bid);
    }

    public boolean isTaken(int block)
            throws IndexOutOfBoundsException, IllegalStateException {
        checkIndex(block, blocks.count);
        checkState(state == OFFERS);
        return isMember(blocks.chosen, block);
    }

    public int gain(int block)
            throws IndexOutOfBoundsException, IllegalStateException {
        checkIndex(block, blocks.count);
        checkState(state == OFFERS);
        return blocks.gainBy(block, days[today].prices);
    }

    public int worthAnew()
            throws IllegalStateException {
        checkState(state == OFFERS);
        return worthTaken();
    }

    public int given(int ask)
            throws IndexOutOfBoundsException, IllegalStateException {
        checkIndex(ask, asks.rows.count);
        checkState(state == OFFERS);
        return asks.rows.used(ask);
    }

    public int left(int offer)
            throws IndexOutOfBoundsException {
        checkIndex(offer, offers.count);
        return offers.rest[offer];
    }

    // ---- what is asked of days and firms

    public int plan(int day, int firm, int zone, int hour)
            throws IndexOutOfBoundsException {
        checkIndex(day, today + 1);
        checkIndex(firm, FIRMS);
        checkIndex(zone, ZONES);
        checkIndex(hour, HOURS);
        return days[day].plans[placeOf(firm, zone, hour)];
    }

    public int gap(int day, int hour)
            throws IndexOutOfBoundsException {
        checkIndex(day, today);
        checkIndex(hour, HOURS);
        return days[day].gapOf(hour);
    }

    public int gapPrice(int day, int hour)
            throws IndexOutOfBoundsException {
        checkIndex(day, today);
        checkIndex(hour, HOURS);
        Day then = days[day];
        int gap = then.gapOf(hour);
        return gap == 0 ? NONE : then.priceOfGap(hour, gap);
    }

    public int bill(int day, int firm)
            throws IndexOutOfBoundsException {
        checkIndex(day, today);
        checkIndex(firm, FIRMS);
        return days[day].billOf(firm);
    }

    public int settled(int day, int firm)
            throws IndexOutOfBoundsException {
        checkIndex(day, today);
        checkIndex(firm, FIRMS);
        return days[day].paid[firm];
    }

    public int account(int firm)
            throws IndexOutOfBoundsException {
        checkIndex(firm, FIRMS);
        return accounts.money[firm];
    }

    public boolean hasFailed(int firm)
            throws IndexOutOfBoundsException {
        checkIndex(firm, FIRMS);
        return accounts.isOut[firm];
    }

    public int house() {
        return accounts.houseMoney;
    }

    // ---- behind the face

    private static void checkIndex(int index, int count) {
        if (index < 0 || index >= count) {
            throw new IndexOutOfBoundsException();
        }
    }

    private static void checkRange(int value, int least, int most) {
        if (value < least || value > most) {
            throw new IllegalArgumentException();
        }
    }

    private static void checkState(boolean isFine) {
        if (!isFine) {
            throw new IllegalStateException();
        }
    }

    private static boolean isMember(int set, int member) {
        return (set >> member & 1) == 1;
    }

    /** Where a zone and an hour stand in the rows that have a place for each. */
    private static int spotOf(int zone, int hour) {
        return zone * HOURS + hour;
    }

    /** Where a firm, a zone and an hour stand in the rows that have a place for each. */
    private static int placeOf(int firm, int zone, int hour) {
        return firm * ZONES * HOURS + spotOf(zone, hour);
    }

    private static int lineBegin(int line) {
        return line == 1 ? 1 : 0;
    }

    private static int lineEnd(int line) {
        return line == 0 ? 1 : 2;
    }

    private static int lineBetween(int zone, int other) {
        if (zone != 2 && other != 2) {
            return 0;
        }
        return zone != 0 && other != 0 ? 1 : 2;
    }

    private void takeBids(Day now) {
        for (int bid = 0; bid < bids.count; bid++) {
            int units = bids.isBuy[bid] ? -bids.used(bid) : bids.used(bid);
            int spot = spotOf(bids.zone[bid], bids.hour[bid]);
            now.book(bids.firm[bid], spot, units, now.prices[spot]);
        }
    }

    private void takeBlocks(Day now) {
        for (int block = 0; block < blocks.count; block++) {
            if (!isMember(blocks.chosen, block)) {
                continue;
            }
            int units = blocks.isBuy[block] ? -blocks.units[block] : blocks.units[block];
            for (int hour = 0; hour < HOURS; hour++) {
                if (isMember(blocks.hours[block], hour)) {
                    int spot = spotOf(blocks.zone[block], hour);
                    now.book(blocks.firm[block], spot, units, now.prices[spot]);
                }
            }
        }
    }

    private void giveRights(Day now) {
        for (int from = 0; from < ZONES; from++) {
            for (int to = 0; to < ZONES; to++) {
                if (from != to) {
                    asks.giveOut(from, to, grid.limits[lineBetween(from, to)], now);
                }
            }
        }
    }

    private int worthTaken() {
        int worth = blocks.worthOf(blocks.chosen);
        for (int bid = 0; bid < bids.count; bid++) {
            int each = bids.isBuy[bid] ? bids.price[bid] : -bids.price[bid];
            worth += each * bids.used(bid);
        }
        return worth;
    }

    private void tradeAll(int number) {
        for (int rank = 0; rank < offers.count && offers.rest[number] > 0; rank++) {
            int other = offers.merit[rank];
            if (offers.fits(number, other)) {
                trade(number, other);
            }
        }
    }

    private void trade(int coming, int resting) {
        int seller = offers.isBuy[coming] ? resting : coming;
        int buyer = offers.isBuy[coming] ? coming : resting;
        int hour = offers.hour[coming];
        Day now = days[today];
        int sold = spotOf(offers.zone[seller], hour);
        int bought = spotOf(offers.zone[buyer], hour);
        int most = Math.min(offers.rest[coming], offers.rest[resting]);
        int units = 0;
        while (units < most && moveUnit(now.nets, sold, bought, hour)) {
            units++;
        }
        offers.rest[coming] -= units;
        offers.rest[resting] -= units;
        now.book(offers.firm[seller], sold, units, offers.price[resting]);
        now.book(offers.firm[buyer], bought, -units, offers.price[resting]);
    }

    /** Moves one unit between two spots of an hour, if the limits let; tells whether they do. */
    private boolean moveUnit(int[] nets, int sold, int bought, int hour) {
        nets[sold]++;
        nets[bought]--;
        if (grid.allows(nets[spotOf(0, hour)], nets[spotOf(1, hour)], nets[spotOf(2, hour)])) {
            return true;
        }
        nets[sold]--;
        nets[bought]++;
        return false;
    }

    /** The limits of the lines, and what they let through. */
    private static final class Grid {
        final int[] limits = {FIRST_LIMIT, FIRST_LIMIT, FIRST_LIMIT};

        boolean allows(int net0, int net1, int net2) {
            return Math.abs(net0 - net1) <= 3 * limits[0]
                && Math.abs(net1 - net2) <= 3 * limits[1]
                && Math.abs(net0 - net2) <= 3 * limits[2];
        }
    }

    /** What firms want to buy or to sell, numbered as it comes: bids, asks, offers or aids. */
    private static final class Orders {
        final int[] firm;
        final int[] zone;
        final int[] hour;
        final boolean[] isBuy;
        final int[] price;
        final int[] units;
        final int[] rest;
        /** The numbers, those to sell by rising prices and those to buy by falling ones. */
        final int[] merit;
        int count = 0;

        Orders(int most) {
            firm = new int[most];
            zone = new int[most];
            hour = new int[most];
            isBuy = new boolean[most];
            price = new int[most];
            units = new int[most];
            rest = new int[most];
            merit = new int[most];
        }

        boolean hasRoom() {
            return count < merit.length;
        }

        int used(int number) {
            return units[number] - rest[number];
        }

        int add(int itsFirm, int itsZone, int itsHour, boolean isToBuy, int itsPrice, int itsUnits) {
            if (!hasRoom()) {
                return NONE;
            }
            int number = count;
            firm[number] = itsFirm;
            zone[number] = itsZone;
            hour[number] = itsHour;
            isBuy[number] = isToBuy;
            price[number] = itsPrice;
            units[number] = itsUnits;
            rest[number] = itsUnits;
            rank(number);
            count++;
            return number;
        }

        private void rank(int number) {
            int place = number;
            // Only what is dearer is passed, so the earlier one of a price stays ahead.
            while (place > 0 && costOf(merit[place - 1]) > costOf(number)) {
                merit[place] = merit[place - 1];
                place--;
            }
            merit[place] = number;
        }

        /** One key for both sides: the lower, the better. */
        private int costOf(int number) {
            return isBuy[number] ? -price[number] : price[number];
        }

        /** Whether the coming one would trade with the other one, but for the limits. */
        boolean fits(int coming, int other) {
            return isBuy[coming] != isBuy[other]
                && hour[coming] == hour[other]
                && firm[coming] != firm[other]
                && rest[other] > 0
                && costOf(coming) + costOf(other) <= 0;
        }

        boolean isIn(int number, int inZone, int inHour) {
            return zone[number] == inZone && hour[number] == inHour;
        }

        /** Takes of the bids of a zone and an hour as many units to buy and to sell. */
        void take(int inZone, int inHour, int toBuy, int toSell) {
            int buys = toBuy;
            int sells = toSell;
            for (int rank = 0; rank < count; rank++) {
                int number = merit[rank];
                if (isIn(number, inZone, inHour)) {
                    int some = Math.min(units[number], isBuy[number] ? buys : sells);
                    rest[number] = units[number] - some;
                    buys -= isBuy[number] ? some : 0;
                    sells -= isBuy[number] ? 0 : some;
                }
            }
        }
    }

    /** The blocks of a day; a set of them is a number, block b counting 2 to the power of b. */
    private static final class Blocks {
        final int[] firm = new int[MOST_BLOCKS];
        final int[] zone = new int[MOST_BLOCKS];
        final int[] hours = new int[MOST_BLOCKS];
        final boolean[] isBuy = new boolean[MOST_BLOCKS];
        final int[] price = new int[MOST_BLOCKS];
        final int[] units = new int[MOST_BLOCKS];
        final int[] to = new int[MOST_BLOCKS];
        final int[] group = new int[MOST_BLOCKS];
        int count = 0;
        int chosen = 0;

        int add(int itsFirm, int itsZone, int itsHours, boolean isToBuy, int itsPrice, int itsUnits) {
            if (count >= MOST_BLOCKS) {
                return NONE;
            }
            int block = count;
            firm[block] = itsFirm;
            zone[block] = itsZone;
            hours[block] = itsHours;
            isBuy[block] = isToBuy;
            price[block] = itsPrice;
            units[block] = itsUnits;
            to[block] = NONE;
            group[block] = NONE;
            count++;
            return block;
        }

        boolean isAllowed(int set) {
            int groups = 0;
            for (int block = 0; block < count; block++) {
                if (!isMember(set, block)) {
                    continue;
                }
                if (to[block] != NONE && !isMember(set, to[block])) {
                    return false;
                }
                if (group[block] != NONE) {
                    if (isMember(groups, group[block])) {
                        return false;
                    }
                    groups |= 1 << group[block];
                }
            }
            return true;
        }

        /** The blocks of a set that are in an hour. */
        int partIn(int set, int hour) {
            int part = 0;
            for (int block = 0; block < count; block++) {
                if (isMember(set, block) && isMember(hours[block], hour)) {
                    part |= 1 << block;
                }
            }
            return part;
        }

        /** The units to sell less those to buy, of a set whose blocks are all in the hour. */
        int unitsOf(int set, int inZone) {
            int sum = 0;
            for (int block = 0; block < count; block++) {
                if (isMember(set, block) && zone[block] == inZone) {
                    sum += isBuy[block] ? -units[block] : units[block];
                }
            }
            return sum;
        }

        int worthOf(int set) {
            int worth = 0;
            for (int block = 0; block < count; block++) {
                if (isMember(set, block)) {
                    int all = price[block] * units[block] * Integer.bitCount(hours[block]);
                    worth += isBuy[block] ? all : -all;
                }
            }
            return worth;
        }

        /** What a block gains for each unit by the prices of all zones and hours. */
        int gainBy(int block, int[] prices) {
            int sum = 0;
            for (int hour = 0; hour < HOURS; hour++) {
                if (isMember(hours[block], hour)) {
                    sum += prices[spotOf(zone[block], hour)] - price[block];
                }
            }
            return isBuy[block] ? -sum : sum;
        }

        boolean hasLoser(int set, int[] prices) {
            for (int block = 0; block < count; block++) {
                if (isMember(set, block) && gainBy(block, prices) < 0) {
                    return true;
                }
            }
            return false;
        }
    }

    /** The asks for rights of a day. */
    private static final class Asks {
        /** An ask stands here as one to buy, in the zone from which its right is: both go by falling prices. */
        final Orders rows = new Orders(MOST_ASKS);
        final int[] to = new int[MOST_ASKS];

        int add(int firm, int from, int itsTo, int units, int price) {
            int number = rows.add(firm, from, 0, true, price, units);
            if (number != NONE) {
                to[number] = itsTo;
            }
            return number;
        }

        /** Gives the rights from a zone to another one, at most as many as the limit. */
        void giveOut(int from, int itsTo, int limit, Day day) {
            int room = limit;
            int lastPrice = 0;
            boolean areAllGiven = true;
            for (int rank = 0; rank < rows.count; rank++) {
                int number = rows.merit[rank];
                if (isBetween(number, from, itsTo)) {
                    int units = Math.min(room, rows.units[number]);
                    rows.rest[number] -= units;
                    room -= units;
                    lastPrice = units > 0 ? rows.price[number] : lastPrice;
                    areAllGiven = areAllGiven && rows.rest[number] == 0;
                }
            }
            int each = day.differenceOf(from, itsTo) - (areAllGiven ? 0 : lastPrice);
            for (int number = 0; number < rows.count; number++) {
                if (isBetween(number, from, itsTo)) {
                    day.cash[rows.firm[number]] += each * rows.used(number);
                }
            }
        }

        private boolean isBetween(int number, int from, int itsTo) {
            return rows.zone[number] == from && to[number] == itsTo;
        }
    }

    /** What the bids of a zone and an hour can make, and the worth of it. */
    private static final class Curve {
        private static final int MOST = MOST_BIDS * MOST_UNITS;
        /** The farthest that bids may have to make: a net, less all blocks, and one unit more. */
        private static final int REACH = 2 * MOST_LIMIT + MOST_BLOCKS * MOST_UNITS + 1;

        /** What the first units to sell cost together, by their number; so for those to buy. */
        final int[] costs = new int[MOST + 1];
        final int[] pays = new int[MOST + 1];
        final int[] worths = new int[2 * REACH + 1];
        int toSell = 0;
        int toBuy = 0;

        void draw(Orders bids, int zone, int hour) {
            toSell = 0;
            toBuy = 0;
            for (int rank = 0; rank < bids.count; rank++) {
                int number = bids.merit[rank];
                if (bids.isIn(number, zone, hour)) {
                    if (bids.isBuy[number]) {
                        toBuy = extend(pays, toBuy, bids.price[number], bids.units[number]);
                    } else {
                        toSell = extend(costs, toSell, bids.price[number], bids.units[number]);
                    }
                }
            }
        }

        void weigh() {
            int most = Math.min(REACH, toSell);
            for (int make = Math.max(-REACH, -toBuy); make <= most; make++) {
                int buys = buysFor(make);
                worths[make + REACH] = buys == NONE ? IMPOSSIBLE : pays[buys] - costs[buys + make];
            }
        }

        private static int extend(int[] sums, int length, int price, int units) {
            int last = length;
            for (int unit = 0; unit < units && last < MOST; unit++) {
                sums[last + 1] = sums[last] + price;
                last++;
            }
            return last;
        }

        /** How many units to buy are taken, if those to sell less these must be so many; NONE if they can't be. */
        int buysFor(int make) {
            int buys = Math.max(0, -make);
            if (buys > toBuy || buys + make > toSell) {
                return NONE;
            }
            // Each further pair of units is worth less than the one before.
            while (buys < toBuy && buys + make < toSell && isPairWorth(buys, buys + make)) {
                buys++;
            }
            return buys;
        }

        private boolean isPairWorth(int buys, int sells) {
            return pays[buys + 1] - pays[buys] > costs[sells + 1] - costs[sells];
        }

        int worthOf(int make) {
            if (make < -toBuy || make > toSell || make < -REACH || make > REACH) {
                return IMPOSSIBLE;
            }
            return worths[make + REACH];
        }
    }

    /** Looks for the nets of one hour that have the most worth with some blocks, and for its prices. */
    private static final class HourSearch {
        final Curve[] curves = new Curve[ZONES];
        /** What the blocks make in each zone. */
        final int[] made = new int[ZONES];
        final int[] nets = new int[ZONES];
        /** The most worth with one unit more in a zone. */
        final int[] more = new int[ZONES];
        int worth = IMPOSSIBLE;
        int flows = 0;

        HourSearch() {
            for (int zone = 0; zone < ZONES; zone++) {
                curves[zone] = new Curve();
            }
        }

        void draw(Orders bids, int hour) {
            for (int zone = 0; zone < ZONES; zone++) {
                curves[zone].draw(bids, zone, hour);
            }
        }

        void weighBids() {
            for (int zone = 0; zone < ZONES; zone++) {
                curves[zone].weigh();
            }
        }

        /** Searches with a set of blocks that are all in the hour. */
        void search(Grid grid, Blocks blocks, int set) {
            worth = IMPOSSIBLE;
            for (int zone = 0; zone < ZONES; zone++) {
                made[zone] = blocks.unitsOf(set, zone);
                nets[zone] = 0;
                more[zone] = IMPOSSIBLE;
            }
            // By rising nets of zone 0, then of zone 1: the first of equals stays.
            int last0 = mostNet(0);
            int last1 = mostNet(1);
            for (int net0 = leastNet(0); net0 <= last0; net0++) {
                for (int net1 = leastNet(1); net1 <= last1; net1++) {
                    if (grid.allows(net0, net1, -net0 - net1)) {
                        consider(net0, net1, -net0 - net1);
                    }
                }
            }
        }

        private int leastNet(int zone) {
            return Math.max(-2 * MOST_LIMIT, made[zone] - curves[zone].toBuy);
        }

        /** One above what the zone can make itself: with a unit from nowhere it can. */
        private int mostNet(int zone) {
            return Math.min(2 * MOST_LIMIT, made[zone] + curves[zone].toSell + 1);
        }

        private void consider(int net0, int net1, int net2) {
            int make0 = net0 - made[0];
            int make1 = net1 - made[1];
            int make2 = net2 - made[2];
            int worth0 = curves[0].worthOf(make0);
            int worth1 = curves[1].worthOf(make1);
            int worth2 = curves[2].worthOf(make2);
            more[0] = Math.max(more[0], together(curves[0].worthOf(make0 - 1), worth1, worth2));
            more[1] = Math.max(more[1], together(worth0, curves[1].worthOf(make1 - 1), worth2));
            more[2] = Math.max(more[2], together(worth0, worth1, curves[2].worthOf(make2 - 1)));
            int all = together(worth0, worth1, worth2);
            int through = Math.abs(net0 - net1) + Math.abs(net1 - net2) + Math.abs(net0 - net2);
            if (all != IMPOSSIBLE && (all > worth || all == worth && through < flows)) {
                worth = all;
                flows = through;
                nets[0] = net0;
                nets[1] = net1;
                nets[2] = net2;
            }
        }

        private static int together(int one, int other, int third) {
            if (one == IMPOSSIBLE || other == IMPOSSIBLE || third == IMPOSSIBLE) {
                return IMPOSSIBLE;
            }
            return one + other + third;
        }

        int priceOf(int zone) {
            return worth == IMPOSSIBLE || more[zone] < worth ? 0 : more[zone] - worth;
        }
    }

    /** Finds the set of blocks with which a day is cleared. */
    private static final class Clearing {
        private static final int SETS = 1 << MOST_BLOCKS;

        final Grid grid = new Grid();
        final Orders bids = new Orders(MOST_BIDS);
        final Blocks blocks = new Blocks();
        final HourSearch search = new HourSearch();
        /** What was found for each hour and each set of blocks in it; other sets share it. */
        final boolean[] isFound = new boolean[HOURS * SETS];
        final int[] worths = new int[HOURS * SETS];
        final int[] nets = new int[HOURS * SETS * ZONES];
        final int[] prices = new int[HOURS * SETS * ZONES];
        /** The prices with the set that is looked at. */
        final int[] pricesNow = new int[ZONES * HOURS];

        /** Chooses the blocks, takes bids, and writes nets and prices to the day. */
        void clearDay(Day day) {
            for (int slot = 0; slot < isFound.length; slot++) {
                isFound[slot] = false;
            }
            for (int hour = 0; hour < HOURS; hour++) {
                searchHour(hour);
            }
            blocks.chosen = bestSet();
            for (int hour = 0; hour < HOURS; hour++) {
                takeHour(hour, day);
            }
        }

        private int setCount() {
            return Math.min(SETS, 1 << blocks.count);
        }

        private int slotOf(int set, int hour) {
            return hour * SETS + blocks.partIn(set, hour);
        }

        private void searchHour(int hour) {
            search.draw(bids, hour);
            search.weighBids();
            int sets = setCount();
            for (int set = 0; set < sets; set++) {
                int slot = slotOf(set, hour);
                if (!isFound[slot] && blocks.isAllowed(set)) {
                    search.search(grid, blocks, blocks.partIn(set, hour));
                    keep(slot);
                }
            }
        }

        private void keep(int slot) {
            isFound[slot] = true;
            worths[slot] = search.worth;
            for (int zone = 0; zone < ZONES; zone++) {
                nets[slot * ZONES + zone] = search.nets[zone];
                prices[slot * ZONES + zone] = search.priceOf(zone);
            }
        }

        private int bestSet() {
            int best = 0;
            int most = worthWith(0);
            int sets = setCount();
            for (int set = 1; set < sets; set++) {
                if (blocks.isAllowed(set)) {
                    int worth = worthWith(set);
                    if (worth > most && !isLosing(set)) {
                        best = set;
                        most = worth;
                    }
                }
            }
            return best;
        }

        private int worthWith(int set) {
            int worth = blocks.worthOf(set);
            for (int hour = 0; hour < HOURS; hour++) {
                int more = worths[slotOf(set, hour)];
                if (more == IMPOSSIBLE) {
                    return IMPOSSIBLE;
                }
                worth += more;
            }
            return worth;
        }

        private boolean isLosing(int set) {
            for (int hour = 0; hour < HOURS; hour++) {
                int slot = slotOf(set, hour);
                for (int zone = 0; zone < ZONES; zone++) {
                    pricesNow[spotOf(zone, hour)] = prices[slot * ZONES + zone];
                }
            }
            return blocks.hasLoser(set, pricesNow);
        }

        private void takeHour(int hour, Day day) {
            int part = blocks.partIn(blocks.chosen, hour);
            int slot = slotOf(blocks.chosen, hour);
            search.draw(bids, hour);
            for (int zone = 0; zone < ZONES; zone++) {
                int net = nets[slot * ZONES + zone];
                int make = net - blocks.unitsOf(part, zone);
                int buys = search.curves[zone].buysFor(make);
                if (buys != NONE) {
                    bids.take(zone, hour, buys, buys + make);
                }
                day.nets[spotOf(zone, hour)] = net;
                day.prices[spotOf(zone, hour)] = prices[slot * ZONES + zone];
            }
        }
    }

    /** What is kept of a day, also behind its closing. */
    private static final class Day {
        final int[] prices = new int[ZONES * HOURS];
        final int[] nets = new int[ZONES * HOURS];
        final int[] plans = new int[FIRMS * ZONES * HOURS];
        final int[] gaps = new int[FIRMS * ZONES * HOURS];
        /** What each firm gets, less what it pays, by clearing, rights and offers. */
        final int[] cash = new int[FIRMS];
        /** What each firm got by the runs. */
        final int[] paid = new int[FIRMS];
        final Orders aids = new Orders(MOST_AIDS);
        int runs = 0;

        /** Plans units that a firm sells, or, below 0, buys. */
        void book(int firm, int spot, int units, int price) {
            plans[firm * ZONES * HOURS + spot] += units;
            cash[firm] += units * price;
        }

        /** What a right between two zones gives. */
        int differenceOf(int from, int to) {
            int sum = 0;
            for (int hour = 0; hour < HOURS; hour++) {
                sum += Math.max(0, prices[spotOf(to, hour)] - prices[spotOf(from, hour)]);
            }
            return sum;
        }

        int gapOf(int hour) {
            int sum = 0;
            for (int firm = 0; firm < FIRMS; firm++) {
                for (int zone = 0; zone < ZONES; zone++) {
                    sum += gaps[placeOf(firm, zone, hour)];
                }
            }
            return sum;
        }

        /** The price of a gap that is not 0. */
        int priceOfGap(int hour, int gap) {
            int need = Math.abs(gap);
            int price = gap < 0 ? PRICE_OF_TOO_LITTLE : 0;
            for (int rank = 0; rank < aids.count && need > 0; rank++) {
                int aid = aids.merit[rank];
                if (helps(aid, hour, gap)) {
                    need -= aids.units[aid];
                    price = need > 0 ? price : aids.price[aid];
                }
            }
            for (int zone = 0; zone < ZONES; zone++) {
                int other = prices[spotOf(zone, hour)];
                price = gap < 0 ? Math.max(price, other) : Math.min(price, other);
            }
            return price;
        }

        private boolean helps(int aid, int hour, int gap) {
            return aids.hour[aid] == hour && aids.isBuy[aid] == gap > 0;
        }

        /** The units used of a firm's aids. */
        private int unitsUsed(int firm, int hour, int gap) {
            int need = Math.abs(gap);
            int sum = 0;
            for (int rank = 0; rank < aids.count && need > 0; rank++) {
                int aid = aids.merit[rank];
                if (helps(aid, hour, gap)) {
                    int units = Math.min(need, aids.units[aid]);
                    need -= units;
                    sum += aids.firm[aid] == firm ? units : 0;
                }
            }
            return sum;
        }

        private int balanceOf(int firm, int hour) {
            int gap = gapOf(hour);
            int gapPrice = gap == 0 ? 0 : priceOfGap(hour, gap);
            int sum = 0;
            for (int zone = 0; zone < ZONES; zone++) {
                int own = gaps[placeOf(firm, zone, hour)];
                boolean isWithGap = gap < 0 && own < 0 || gap > 0 && own > 0;
                sum += own * (isWithGap ? gapPrice : prices[spotOf(zone, hour)]);
            }
            int used = unitsUsed(firm, hour, gap);
            return sum + (gap < 0 ? used : -used) * gapPrice;
        }

        int billOf(int firm) {
            int sum = cash[firm];
            for (int hour = 0; hour < HOURS; hour++) {
                sum += balanceOf(firm, hour);
            }
            return sum;
        }
    }

    /** The money of the firms and of the house. */
    private static final class Accounts {
        final int[] money = new int[FIRMS];
        final int[] deposits = new int[FIRMS];
        final boolean[] isOut = new boolean[FIRMS];
        int houseMoney = 0;

        void payFromHouse(int firm, int amount) {
            money[firm] += amount;
            houseMoney -= amount;
        }

        /** Lets firms fail as long as one must; answers how many did. */
        int failAll() {
            int failed = 0;
            int firm = nextToFail();
            while (firm != NONE && failed < FIRMS) {
                fail(firm);
                failed++;
                firm = nextToFail();
            }
            return failed;
        }

        private int nextToFail() {
            for (int firm = 0; firm < FIRMS; firm++) {
                if (!isOut[firm] && money[firm] < 0) {
                    return firm;
                }
            }
            return NONE;
        }

        private void fail(int firm) {
            int loss = -money[firm];
            money[firm] = 0;
            isOut[firm] = true;
            long all = 0;
            for (int other = 0; other < FIRMS; other++) {
                all += isOut[other] ? 0 : deposits[other];
            }
            int left = loss;
            for (int other = 0; other < FIRMS; other++) {
                if (!isOut[other] && all > 0) {
                    int share = (int) ((long) loss * deposits[other] / all);
                    money[other] -= share;
                    left -= share;
                }
            }
            houseMoney -= left;
        }
    }
}
