import java.util.ArrayList;
import java.util.Arrays;
import java.util.Comparator;
import java.util.List;

/**
 * The document once more, in the plainest way and without care for speed:
 * what RandomRunsTest compares the class with.
 */
final class PlainMarket {
    static final class Order {
        int firm, zone, to, hour, price, units, left, number;
        boolean isBuy;
    }

    static final class Block {
        int firm, zone, hours, price, units, to = -1, group = -1, number;
        boolean isBuy;

        boolean in(int hour) {
            return (hours & (1 << hour)) != 0;
        }

        int hourCount() {
            int n = 0;
            for (int h = 0; h < 4; h++) {
                n += in(h) ? 1 : 0;
            }
            return n;
        }
    }

    /** A payment by a day; firm -1 is the house. */
    record Payment(int from, int to, int amount) { }

    record Cleared(int worth, int[] nets) { }

    static final class PastDay {
        int[][] price = new int[3][4];
        int[][][] plan = new int[6][3][4];
        Integer[][][] reading = new Integer[6][3][4];
        List<Payment> payments = new ArrayList<>();
        List<Order> aids = new ArrayList<>();
        int runs = 0;
        int[] settled = new int[6];
    }

    int day = 0;
    boolean isCleared = false;
    int[] limit = {5, 5, 5};
    int[] account = new int[6];
    int[] deposited = new int[6];
    boolean[] failed = new boolean[6];
    int house = 0;
    List<PastDay> days = new ArrayList<>(List.of(new PastDay()));
    List<Order> bids = new ArrayList<>();
    List<Block> blocks = new ArrayList<>();
    List<Order> asks = new ArrayList<>();
    List<Order> offers = new ArrayList<>();
    List<Block> takenBlocks = new ArrayList<>();
    int[][] net = new int[3][4];
    int worth = 0;

    static void index(boolean isThere) {
        if (!isThere) {
            throw new IndexOutOfBoundsException();
        }
    }

    static void argument(boolean isFine) {
        if (!isFine) {
            throw new IllegalArgumentException();
        }
    }

    static void state(boolean isFine) {
        if (!isFine) {
            throw new IllegalStateException();
        }
    }

    static boolean in(int x, int a, int b) {
        return a <= x && x <= b;
    }

    PastDay today() {
        return days.get(day);
    }

    int deposit(int firm, int amount) {
        index(in(firm, 0, 5));
        argument(in(amount, 1, 100000));
        state(!failed[firm]);
        state(deposited[firm] + amount <= 10000000);
        deposited[firm] += amount;
        account[firm] += amount;
        return account[firm];
    }

    int setLimit(int line, int value) {
        index(in(line, 0, 2));
        argument(in(value, 0, 10));
        state(!isCleared);
        int before = limit[line];
        limit[line] = value;
        return before;
    }

    static Order order(List<Order> list, int firm, int zone, int hour, boolean isBuy, int price, int units) {
        Order o = new Order();
        o.firm = firm;
        o.zone = zone;
        o.hour = hour;
        o.isBuy = isBuy;
        o.price = price;
        o.units = units;
        o.left = units;
        o.number = list.size();
        list.add(o);
        return o;
    }

    int bid(int firm, int zone, int hour, boolean isBuy, int price, int units) {
        index(in(firm, 0, 5) && in(zone, 0, 2) && in(hour, 0, 3));
        argument(in(price, 0, 200) && in(units, 1, 10));
        state(!failed[firm] && !isCleared && bids.size() < 40);
        return order(bids, firm, zone, hour, isBuy, price, units).number;
    }

    int block(int firm, int zone, int hours, boolean isBuy, int price, int units) {
        index(in(firm, 0, 5) && in(zone, 0, 2));
        argument(in(hours, 1, 15) && in(price, 0, 200) && in(units, 1, 10));
        state(!failed[firm] && !isCleared && blocks.size() < 5);
        Block b = new Block();
        b.firm = firm;
        b.zone = zone;
        b.hours = hours;
        b.isBuy = isBuy;
        b.price = price;
        b.units = units;
        b.number = blocks.size();
        blocks.add(b);
        return b.number;
    }

    void link(int block, int to, int group) {
        index(in(block, 0, blocks.size() - 1));
        argument(to == -1 || in(to, 0, block - 1));
        argument(group == -1 || in(group, 0, 2));
        state(!isCleared);
        blocks.get(block).to = to;
        blocks.get(block).group = group;
    }

    int ask(int firm, int from, int to, int units, int price) {
        index(in(firm, 0, 5) && in(from, 0, 2) && in(to, 0, 2));
        argument(from != to && in(units, 1, 10) && in(price, 0, 500));
        state(!failed[firm] && !isCleared && asks.size() < 20);
        Order o = order(asks, firm, from, 0, true, price, units);
        o.to = to;
        return o.number;
    }

    static boolean allows(int[] limit, int a, int b, int c) {
        int[][] ends = {{a, b}, {b, c}, {a, c}};
        for (int line = 0; line < 3; line++) {
            int flow = ends[line][0] - ends[line][1];
            if (flow > 3 * limit[line] || flow < -3 * limit[line]) {
                return false;
            }
        }
        return true;
    }

    List<Order> side(int zone, int hour, boolean isBuy) {
        List<Order> list = new ArrayList<>();
        for (Order o : bids) {
            if (o.zone == zone && o.hour == hour && o.isBuy == isBuy) {
                list.add(o);
            }
        }
        Comparator<Order> byPrice = Comparator.comparingInt(o -> o.price);
        list.sort(isBuy ? byPrice.reversed() : byPrice);
        return list;
    }

    static int sumOfFirst(List<Order> list, int units) {
        int sum = 0;
        int rest = units;
        for (Order o : list) {
            int some = Math.min(rest, o.units);
            sum += some * o.price;
            rest -= some;
        }
        return rest > 0 ? Integer.MIN_VALUE : sum;
    }

    static int unitsOf(List<Order> list) {
        return list.stream().mapToInt(o -> o.units).sum();
    }

    /** Worth, sold and bought; null if not possible. */
    int[] bestOfZone(int zone, int hour, int make) {
        List<Order> sells = side(zone, hour, false);
        List<Order> buys = side(zone, hour, true);
        int[] best = null;
        int all = unitsOf(sells);
        int allBuys = unitsOf(buys);
        for (int sold = 0; sold <= all; sold++) {
            int bought = sold - make;
            if (bought < 0 || bought > allBuys) {
                continue;
            }
            int w = sumOfFirst(buys, bought) - sumOfFirst(sells, sold);
            if (best == null || w > best[0]) {
                best = new int[] {w, sold, bought};
            }
        }
        return best;
    }

    private int[][][] tables;

    /** Fills the tables of worths by zone, hour and what must be made. */
    void drawTables() {
        tables = new int[3][4][161];
        for (int z = 0; z < 3; z++) {
            for (int h = 0; h < 4; h++) {
                for (int make = -80; make <= 80; make++) {
                    int[] best = bestOfZone(z, h, make);
                    tables[z][h][make + 80] = best == null ? Integer.MIN_VALUE : best[0];
                }
            }
        }
    }

    static int blockUnits(List<Block> set, int zone, int hour) {
        int sum = 0;
        for (Block b : set) {
            if (b.zone == zone && b.in(hour)) {
                sum += b.isBuy ? -b.units : b.units;
            }
        }
        return sum;
    }

    /** The best nets of an hour; one unit comes from nowhere to the zone extra, if it is none of -1. */
    Cleared clearHour(List<Block> set, int hour, int extra) {
        Cleared best = null;
        int bestFlow = 0;
        for (int a = -25; a <= 25; a++) {
            for (int b = -25; b <= 25; b++) {
                int[] nets = {a, b, -a - b};
                if (!allows(limit, a, b, nets[2])) {
                    continue;
                }
                int sum = 0;
                boolean isPossible = true;
                for (int z = 0; z < 3; z++) {
                    int make = nets[z] - blockUnits(set, z, hour) - (z == extra ? 1 : 0);
                    int w = in(make, -80, 80) ? tables[z][hour][make + 80] : Integer.MIN_VALUE;
                    isPossible = isPossible && w != Integer.MIN_VALUE;
                    sum += isPossible ? w : 0;
                }
                int flow = Math.abs(a - b) + Math.abs(b - nets[2]) + Math.abs(a - nets[2]);
                if (isPossible && (best == null || sum > best.worth || sum == best.worth && flow < bestFlow)) {
                    best = new Cleared(sum, nets);
                    bestFlow = flow;
                }
            }
        }
        return best;
    }

    List<Block> setOf(int mask) {
        List<Block> set = new ArrayList<>();
        for (Block b : blocks) {
            if ((mask & (1 << b.number)) != 0) {
                set.add(b);
            }
        }
        return set;
    }

    static boolean isAllowed(List<Block> set) {
        for (Block b : set) {
            if (b.to != -1 && set.stream().noneMatch(c -> c.number == b.to)) {
                return false;
            }
            if (b.group != -1 && set.stream().filter(c -> c.group == b.group).count() > 1) {
                return false;
            }
        }
        return true;
    }

    int gainOf(Block b, int[][] price) {
        int sum = 0;
        for (int h = 0; h < 4; h++) {
            sum += b.in(h) ? price[b.zone][h] : 0;
        }
        int own = b.price * b.hourCount();
        return b.isBuy ? own - sum : sum - own;
    }

    int clear() {
        state(!isCleared);
        drawTables();
        int best = Integer.MIN_VALUE;
        for (int mask = 0; mask < 1 << blocks.size(); mask++) {
            List<Block> set = setOf(mask);
            if (!isAllowed(set)) {
                continue;
            }
            int[][] price = new int[3][4];
            int[][] nets = new int[3][4];
            Integer sum = weighSet(set, price, nets);
            if (sum == null || sum <= best || set.stream().anyMatch(b -> gainOf(b, price) < 0)) {
                continue;
            }
            best = sum;
            net = nets;
            takenBlocks = set;
            today().price = price;
        }
        worth = best;
        takeAll();
        giveRights();
        isCleared = true;
        return worth;
    }

    Integer weighSet(List<Block> set, int[][] price, int[][] nets) {
        int sum = 0;
        for (Block b : set) {
            sum += (b.isBuy ? 1 : -1) * b.price * b.units * b.hourCount();
        }
        for (int h = 0; h < 4; h++) {
            Cleared plain = clearHour(set, h, -1);
            if (plain == null) {
                return null;
            }
            sum += plain.worth;
            for (int z = 0; z < 3; z++) {
                Cleared more = clearHour(set, h, z);
                price[z][h] = more == null ? 0 : Math.max(0, more.worth - plain.worth);
                nets[z][h] = plain.nets[z];
            }
        }
        return sum;
    }

    void sell(int firm, int zone, int hour, int units, int price) {
        today().plan[firm][zone][hour] += units;
        today().payments.add(new Payment(-1, firm, units * price));
    }

    void takeAll() {
        for (int z = 0; z < 3; z++) {
            for (int h = 0; h < 4; h++) {
                int[] best = bestOfZone(z, h, net[z][h] - blockUnits(takenBlocks, z, h));
                takeSide(side(z, h, false), best[1], 1);
                takeSide(side(z, h, true), best[2], -1);
            }
        }
        for (Block b : takenBlocks) {
            for (int h = 0; h < 4; h++) {
                if (b.in(h)) {
                    sell(b.firm, b.zone, h, b.isBuy ? -b.units : b.units, today().price[b.zone][h]);
                }
            }
        }
    }

    void takeSide(List<Order> list, int units, int sign) {
        int rest = units;
        for (Order o : list) {
            int some = Math.min(rest, o.units);
            o.left = o.units - some;
            rest -= some;
            sell(o.firm, o.zone, o.hour, sign * some, today().price[o.zone][o.hour]);
        }
    }

    void giveRights() {
        int[][] ends = {{0, 1}, {1, 2}, {0, 2}};
        for (int line = 0; line < 3; line++) {
            giveWay(ends[line][0], ends[line][1], limit[line]);
            giveWay(ends[line][1], ends[line][0], limit[line]);
        }
    }

    void giveWay(int from, int to, int room) {
        List<Order> list = new ArrayList<>();
        for (Order o : asks) {
            if (o.zone == from && o.to == to) {
                list.add(o);
            }
        }
        list.sort(Comparator.comparingInt((Order o) -> -o.price));
        int asked = unitsOf(list);
        int rest = room;
        int cost = 0;
        for (Order o : list) {
            int some = Math.min(rest, o.units);
            o.left = o.units - some;
            rest -= some;
            cost = some > 0 ? o.price : cost;
        }
        for (Order o : list) {
            int some = o.units - o.left;
            if (asked > room) {
                today().payments.add(new Payment(o.firm, -1, some * cost));
            }
            for (int h = 0; h < 4; h++) {
                int more = today().price[to][h] - today().price[from][h];
                if (more > 0) {
                    today().payments.add(new Payment(-1, o.firm, some * more));
                }
            }
        }
    }

    int offer(int firm, int zone, int hour, boolean isBuy, int price, int units) {
        index(in(firm, 0, 5) && in(zone, 0, 2) && in(hour, 0, 3));
        argument(in(price, 0, 300) && in(units, 1, 10));
        state(!failed[firm] && isCleared && offers.size() < 60);
        List<Order> resting = new ArrayList<>(offers);
        Order mine = order(offers, firm, zone, hour, isBuy, price, units);
        resting.removeIf(o -> o.isBuy == isBuy || o.hour != hour || o.left == 0 || o.firm == firm
            || (isBuy ? o.price > price : o.price < price));
        Comparator<Order> byPrice = Comparator.comparingInt(o -> o.price);
        resting.sort(isBuy ? byPrice : byPrice.reversed());
        for (Order other : resting) {
            int most = Math.min(mine.left, other.left);
            for (int n = most; n > 0; n--) {
                int[][] after = {net[0].clone(), net[1].clone(), net[2].clone()};
                after[isBuy ? other.zone : zone][hour] += n;
                after[isBuy ? zone : other.zone][hour] -= n;
                if (allows(limit, after[0][hour], after[1][hour], after[2][hour])) {
                    net = after;
                    mine.left -= n;
                    other.left -= n;
                    sell(mine.firm, zone, hour, isBuy ? -n : n, other.price);
                    sell(other.firm, other.zone, hour, isBuy ? n : -n, other.price);
                    break;
                }
            }
        }
        return mine.number;
    }

    int takeBack(int offer) {
        index(in(offer, 0, offers.size() - 1));
        state(offers.get(offer).left > 0);
        int left = offers.get(offer).left;
        offers.get(offer).left = 0;
        return left;
    }

    int aid(int firm, int hour, boolean isMore, int price, int units) {
        index(in(firm, 0, 5) && in(hour, 0, 3));
        argument(in(price, 0, 300) && in(units, 1, 10));
        state(!failed[firm] && today().aids.size() < 30);
        return order(today().aids, firm, 0, hour, isMore, price, units).number;
    }

    int close() {
        state(isCleared && day != 9);
        day++;
        days.add(new PastDay());
        isCleared = false;
        bids.clear();
        blocks.clear();
        asks.clear();
        offers.clear();
        takenBlocks = new ArrayList<>();
        net = new int[3][4];
        return day;
    }

    int read(int d, int firm, int zone, int hour, int units) {
        index(in(d, 0, day - 1) && in(firm, 0, 5) && in(zone, 0, 2) && in(hour, 0, 3));
        argument(in(units, -200, 200));
        days.get(d).reading[firm][zone][hour] = units;
        return gapAt(days.get(d), firm, zone, hour);
    }

    static int gapAt(PastDay d, int firm, int zone, int hour) {
        Integer reading = d.reading[firm][zone][hour];
        return reading == null ? 0 : reading - d.plan[firm][zone][hour];
    }

    int run(int d) {
        index(in(d, 0, day - 1));
        PastDay then = days.get(d);
        state(then.runs < 3);
        then.runs++;
        for (int f = 0; f < 6; f++) {
            int more = billOf(then, f) - then.settled[f];
            house -= more;
            if (failed[f]) {
                house += more;
            } else {
                account[f] += more;
                then.settled[f] += more;
            }
        }
        int count = 0;
        for (int f = 0; f < 6; f++) {
            if (!failed[f] && account[f] < 0) {
                fail(f);
                count++;
                f = -1;
            }
        }
        return count;
    }

    void fail(int f) {
        failed[f] = true;
        long loss = -account[f];
        account[f] = 0;
        long all = 0;
        for (int g = 0; g < 6; g++) {
            all += failed[g] ? 0 : deposited[g];
        }
        long shared = 0;
        for (int g = 0; g < 6 && all > 0; g++) {
            if (!failed[g]) {
                account[g] -= (int) (loss * deposited[g] / all);
                shared += loss * deposited[g] / all;
            }
        }
        house -= (int) (loss - shared);
    }

    int day() {
        return day;
    }

    int phase() {
        return isCleared ? 1 : 0;
    }

    int price(int zone, int hour) {
        index(in(zone, 0, 2) && in(hour, 0, 3));
        state(isCleared);
        return today().price[zone][hour];
    }

    int net(int zone, int hour) {
        index(in(zone, 0, 2) && in(hour, 0, 3));
        state(isCleared);
        return net[zone][hour];
    }

    int flow(int line, int hour) {
        index(in(line, 0, 2) && in(hour, 0, 3));
        state(isCleared);
        int[][] ends = {{0, 1}, {1, 2}, {0, 2}};
        return net[ends[line][0]][hour] - net[ends[line][1]][hour];
    }

    int taken(int bid) {
        index(in(bid, 0, bids.size() - 1));
        state(isCleared);
        return bids.get(bid).units - bids.get(bid).left;
    }

    boolean isTaken(int block) {
        index(in(block, 0, blocks.size() - 1));
        state(isCleared);
        return takenBlocks.contains(blocks.get(block));
    }

    int gain(int block) {
        index(in(block, 0, blocks.size() - 1));
        state(isCleared);
        return gainOf(blocks.get(block), today().price);
    }

    int worthAnew() {
        state(isCleared);
        return worth;
    }

    int given(int ask) {
        index(in(ask, 0, asks.size() - 1));
        state(isCleared);
        return asks.get(ask).units - asks.get(ask).left;
    }

    int left(int offer) {
        index(in(offer, 0, offers.size() - 1));
        return offers.get(offer).left;
    }

    int plan(int d, int firm, int zone, int hour) {
        index(in(d, 0, day) && in(firm, 0, 5) && in(zone, 0, 2) && in(hour, 0, 3));
        return days.get(d).plan[firm][zone][hour];
    }

    static int gapOfHour(PastDay d, int hour) {
        int sum = 0;
        for (int f = 0; f < 6; f++) {
            for (int z = 0; z < 3; z++) {
                sum += gapAt(d, f, z, hour);
            }
        }
        return sum;
    }

    int gap(int d, int hour) {
        index(in(d, 0, day - 1) && in(hour, 0, 3));
        return gapOfHour(days.get(d), hour);
    }

    /** The price of the gap, then what is used of each aid of the day. */
    static int[] balance(PastDay d, int hour) {
        int gap = gapOfHour(d, hour);
        int[] out = new int[1 + d.aids.size()];
        if (gap == 0) {
            out[0] = -1;
            return out;
        }
        List<Order> list = new ArrayList<>();
        for (Order o : d.aids) {
            // isBuy of an aid tells that it gives more
            if (o.hour == hour && o.isBuy == gap < 0) {
                list.add(o);
            }
        }
        Comparator<Order> byPrice = Comparator.comparingInt(o -> o.price);
        list.sort(gap < 0 ? byPrice : byPrice.reversed());
        int rest = Math.abs(gap);
        List<Integer> used = new ArrayList<>();
        for (Order o : list) {
            int some = Math.min(rest, o.units);
            out[1 + o.number] = some;
            rest -= some;
            if (some > 0) {
                used.add(o.price);
            }
        }
        int[] zonePrices = {d.price[0][hour], d.price[1][hour], d.price[2][hour]};
        Arrays.sort(zonePrices);
        if (gap < 0) {
            int p = rest > 0 ? 300 : used.stream().mapToInt(x -> x).max().getAsInt();
            out[0] = Math.max(p, zonePrices[2]);
        } else {
            int p = rest > 0 ? 0 : used.stream().mapToInt(x -> x).min().getAsInt();
            out[0] = Math.min(p, zonePrices[0]);
        }
        return out;
    }

    int gapPrice(int d, int hour) {
        index(in(d, 0, day - 1) && in(hour, 0, 3));
        return balance(days.get(d), hour)[0];
    }

    static int billOf(PastDay d, int firm) {
        int sum = 0;
        for (Payment p : d.payments) {
            sum += p.to == firm ? p.amount : 0;
            sum -= p.from == firm ? p.amount : 0;
        }
        for (int h = 0; h < 4; h++) {
            int gap = gapOfHour(d, h);
            int[] balance = balance(d, h);
            for (int z = 0; z < 3; z++) {
                int own = gapAt(d, firm, z, h);
                int each = d.price[z][h];
                if (gap < 0 && own < 0) {
                    each = balance[0];
                }
                if (gap > 0 && own > 0) {
                    each = balance[0];
                }
                sum += own * each;
            }
            for (Order o : d.aids) {
                if (o.firm == firm && o.hour == h) {
                    sum += (gap < 0 ? 1 : -1) * balance[1 + o.number] * balance[0];
                }
            }
        }
        return sum;
    }

    int bill(int d, int firm) {
        index(in(d, 0, day - 1) && in(firm, 0, 5));
        return billOf(days.get(d), firm);
    }

    int settled(int d, int firm) {
        index(in(d, 0, day - 1) && in(firm, 0, 5));
        return days.get(d).settled[firm];
    }

    int account(int firm) {
        index(in(firm, 0, 5));
        return account[firm];
    }

    boolean hasFailed(int firm) {
        index(in(firm, 0, 5));
        return failed[firm];
    }

    int house() {
        return house;
    }
}
