import java.lang.reflect.InvocationTargetException;
import java.lang.reflect.Method;
import java.util.Random;
import java.util.TreeMap;

/** Compares every answer of long random runs with those of PlainMarket; the runs are the same each time. */
public final class RandomRunsTest {
    private static final int CALLS = 512;
    private static final TreeMap<String, Method> REAL = new TreeMap<>();
    private static final TreeMap<String, Method> PLAIN = new TreeMap<>();
    private static final String[] ASKED = {"day", "phase", "price", "net", "flow", "taken", "isTaken", "gain", "worthAnew",
        "given", "left", "plan", "gap", "gapPrice", "bill", "settled", "account", "hasFailed", "house"};

    private final Random random;
    private final int seed;
    private final GridMarket real = new GridMarket();
    private final PlainMarket plain = new PlainMarket();
    private final StringBuilder told = new StringBuilder();
    /** A run keeps to few hours and zones at times, so that its bids meet. */
    private final int hours;
    private final int zones;
    private final int dearest;
    private final boolean isRich;
    private final boolean isWild;
    private final int ready;

    private RandomRunsTest(int seed) {
        this.seed = seed;
        random = new Random(seed);
        hours = random.nextBoolean() ? 4 : 1 + random.nextInt(3);
        zones = random.nextInt(4) > 0 ? 3 : 1 + random.nextInt(3);
        dearest = random.nextBoolean() ? 200 : 1 + random.nextInt(30);
        isRich = random.nextBoolean();
        isWild = random.nextInt(4) == 0;
        ready = random.nextInt(4) > 0 ? 12 : 37;
    }

    public static void main(String[] args) throws Exception {
        int runs = args.length > 0 ? Integer.parseInt(args[0]) : 300;
        int first = args.length > 1 ? Integer.parseInt(args[1]) : 1;
        for (Method method : GridMarket.class.getDeclaredMethods()) {
            if (java.lang.reflect.Modifier.isPublic(method.getModifiers())) {
                REAL.put(method.getName(), method);
                PLAIN.put(method.getName(), PlainMarket.class.getDeclaredMethod(method.getName(), method.getParameterTypes()));
            }
        }
        int wrong = 0;
        TreeMap<String, Integer> seen = new TreeMap<>();
        for (int seed = first; seed < first + runs && wrong < 3; seed++) {
            wrong += new RandomRunsTest(seed).isFine(seen) ? 0 : 1;
        }
        if (args.length > 0) {
            System.out.println(seen);
        }
        System.out.println(runs + " random runs, " + wrong + " wrong");
        if (wrong > 0) {
            System.exit(1);
        }
    }

    private boolean isFine(TreeMap<String, Integer> seen) throws Exception {
        for (int call = 0; call < CALLS; call++) {
            String name = isAsking(call) ? ASKED[random.nextInt(ASKED.length)] : nextChange(call);
            Object[] args = argumentsOf(name);
            Object want = answer(PLAIN.get(name), plain, args);
            Object got = answer(REAL.get(name), real, args);
            told.append(name).append(java.util.Arrays.toString(args)).append(" -> ").append(got).append('\n');
            seen.merge(name + (want instanceof Class<?> c ? " " + c.getSimpleName() : ""), 1, Integer::sum);
            if (name.equals("run") && want instanceof Integer n && n > 0) {
                seen.merge("firms that failed", n, Integer::sum);
            }
            if (name.equals("clear") && want instanceof Integer) {
                seen.merge("blocks taken", plain.takenBlocks.size(), Integer::sum);
            }
            if (got == null ? want != null : !got.equals(want)) {
                System.out.println("seed " + seed + ", call " + call + ", due is " + want + ":\n" + told);
                return false;
            }
        }
        return true;
    }

    private boolean isAsking(int call) {
        return isWild ? random.nextInt(3) > 0 : random.nextInt(100) < 40;
    }

    private String nextChange(int call) {
        int p = random.nextInt(100);
        if (isWild) {
            String[] all = REAL.keySet().toArray(new String[0]);
            return all[random.nextInt(all.length)];
        }
        if (p < 4) {
            return "deposit";
        }
        if (p < 8) {
            return "aid";
        }
        if (p < 16 && plain.day > 0) {
            return p < 11 ? "run" : "read";
        }
        if (!plain.isCleared) {
            if (plain.bids.size() > ready && random.nextInt(10) == 0) {
                return "clear";
            }
            String[] names = {"bid", "bid", "bid", "bid", "bid", "bid", "block", "link", "ask", "setLimit"};
            return names[random.nextInt(names.length)];
        }
        if (p > 95) {
            return "close";
        }
        return p < 20 ? "takeBack" : "offer";
    }

    private static Object answer(Method method, Object on, Object[] args) throws Exception {
        try {
            return method.invoke(on, args);
        } catch (InvocationTargetException e) {
            return e.getCause().getClass();
        }
    }

    private int some(int least, int most) {
        int rare = random.nextInt(60);
        if (rare == 0) {
            return random.nextBoolean() ? least - 1 : most + 1;
        }
        if (rare == 1) {
            return random.nextBoolean() ? least : most;
        }
        if (rare == 2 && random.nextInt(20) == 0) {
            return random.nextBoolean() ? Integer.MIN_VALUE : Integer.MAX_VALUE;
        }
        return least + random.nextInt(Math.max(1, most - least + 1));
    }

    private int firm() {
        return some(0, 5);
    }

    private int zone() {
        return some(0, zones - 1);
    }

    private int hour() {
        return some(0, hours - 1);
    }

    private int hourSet() {
        return hours == 4 ? some(1, 15) : random.nextInt(10) == 0 ? some(1, 15) : 1 + random.nextInt((1 << hours) - 1);
    }

    private int past() {
        return some(0, Math.max(0, plain.day - 1));
    }

    private Object[] argumentsOf(String name) {
        boolean flag = random.nextBoolean();
        switch (name) {
            case "deposit":
                return new Object[] {firm(), isRich ? some(1, 100000) : some(1, 300)};
            case "setLimit":
                return new Object[] {some(0, 2), some(0, 10)};
            case "bid":
                return new Object[] {firm(), zone(), hour(), flag, some(0, dearest), some(1, 10)};
            case "block":
                return new Object[] {firm(), zone(), hourSet(), flag, some(0, dearest), some(1, 10)};
            case "link":
                int block = some(0, Math.max(0, plain.blocks.size() - 1));
                return new Object[] {block, random.nextInt(3) == 0 ? -1 : some(0, block - 1), some(-1, 2)};
            case "ask":
                return new Object[] {firm(), zone(), some(0, 2), some(1, 10), some(0, random.nextBoolean() ? 500 : 10)};
            case "offer":
                return new Object[] {firm(), zone(), hour(), flag, some(0, Math.min(300, dearest * 2)), some(1, 10)};
            case "takeBack": case "left":
                return new Object[] {some(0, Math.max(0, plain.offers.size() - 1))};
            case "aid":
                return new Object[] {firm(), hour(), flag, some(0, Math.min(300, dearest * 2)), some(1, 10)};
            case "read":
                int most = random.nextInt(4) == 0 ? 200 : 12;
                return new Object[] {past(), firm(), zone(), hour(), some(-most, most)};
            case "run":
                return new Object[] {past()};
            case "price": case "net": case "flow":
                return new Object[] {some(0, 2), hour()};
            case "taken":
                return new Object[] {some(0, Math.max(0, plain.bids.size() - 1))};
            case "isTaken": case "gain":
                return new Object[] {some(0, Math.max(0, plain.blocks.size() - 1))};
            case "given":
                return new Object[] {some(0, Math.max(0, plain.asks.size() - 1))};
            case "plan":
                return new Object[] {some(0, plain.day), firm(), zone(), hour()};
            case "gap": case "gapPrice":
                return new Object[] {past(), hour()};
            case "bill": case "settled":
                return new Object[] {past(), firm()};
            case "account": case "hasFailed":
                return new Object[] {firm()};
            default:
                return new Object[0];
        }
    }
}
