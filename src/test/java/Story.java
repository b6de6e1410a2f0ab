import java.util.function.Supplier;

/** A fixed run of calls that brings to light all that an object holds, told as one text. */
final class Story {
    private static final int MOST_CALLS = 380;

    private final GridMarket x;
    private final StringBuilder told = new StringBuilder();
    private int calls = 0;

    private Story(GridMarket x) {
        this.x = x;
    }

    static String of(GridMarket x) {
        Story story = new Story(x);
        story.tellMoney();
        story.tellDays();
        story.bid();
        story.tellClearing();
        story.trade();
        story.settle();
        if (story.calls > MOST_CALLS) {
            throw new IllegalStateException("a story of " + story.calls + " calls leaves no room for others");
        }
        return story.told.toString();
    }

    private boolean tell(String what, Supplier<Object> call) {
        calls++;
        try {
            told.append(what).append(' ').append(call.get()).append('\n');
            return true;
        } catch (IndexOutOfBoundsException | IllegalArgumentException | IllegalStateException e) {
            told.append(what).append(' ').append(e.getClass().getSimpleName()).append('\n');
            return false;
        }
    }

    private void tellMoney() {
        tell("day", x::day);
        tell("phase", x::phase);
        tell("house", x::house);
        for (int f = 0; f < 6; f++) {
            int firm = f;
            tell("account", () -> x.account(firm));
            tell("hasFailed", () -> x.hasFailed(firm));
        }
    }

    private void tellDays() {
        int today = x.day();
        if (today > 0) {
            tellDay(0);
        }
        if (today > 1) {
            tellDay(today - 1);
        }
        tellPlans(today);
    }

    private void tellDay(int day) {
        tellPlans(day);
        tellBills(day);
        for (int h = 0; h < 4; h++) {
            int hour = h;
            tell("gap", () -> x.gap(day, hour));
            tell("gapPrice", () -> x.gapPrice(day, hour));
        }
    }

    private void tellBills(int day) {
        for (int f = 0; f < 6; f++) {
            int firm = f;
            tell("bill", () -> x.bill(day, firm));
            tell("settled", () -> x.settled(day, firm));
        }
    }

    private void tellPlans(int day) {
        for (int place = 0; place < 72; place++) {
            int at = place;
            tell("plan", () -> x.plan(day, at / 12, at / 4 % 3, at % 4));
        }
    }

    private void bid() {
        for (int l = 0; l < 3; l++) {
            int line = l;
            tell("setLimit", () -> x.setLimit(line, 4 + line));
        }
        tell("bid", () -> x.bid(4, 0, 0, false, 7, 3));
        tell("bid", () -> x.bid(5, 1, 0, true, 90, 4));
        tell("block", () -> x.block(5, 0, 1, false, 5, 2));
        tell("ask", () -> x.ask(4, 1, 2, 1, 9));
        tell("aid", () -> x.aid(5, 0, true, 33, 2));
        tell("aid", () -> x.aid(5, 0, false, 3, 2));
        tell("clear", x::clear);
    }

    private void tellClearing() {
        for (int s = 0; s < 12; s++) {
            int spot = s;
            tell("price", () -> x.price(spot / 4, spot % 4));
            tell("net", () -> x.net(spot / 4, spot % 4));
        }
        tell("worthAnew", x::worthAnew);
        tellAll("taken", x::taken);
        tellAll("isTaken", x::isTaken);
        tellAll("gain", x::gain);
        tellAll("given", x::given);
        tellAll("left", x::left);
    }

    private interface Asked {
        Object of(int number);
    }

    private void tellAll(String what, Asked asked) {
        boolean isThere = true;
        for (int n = 0; n <= 60 && isThere; n++) {
            int number = n;
            isThere = tell(what, () -> asked.of(number));
        }
    }

    private void trade() {
        tell("offer", () -> x.offer(4, 1, 0, false, 20, 2));
        tell("offer", () -> x.offer(5, 0, 0, true, 80, 3));
        for (int n = 0; n < 4; n++) {
            int number = n;
            tell("left", () -> x.left(number));
        }
        tell("takeBack", () -> x.takeBack(0));
        tell("close", x::close);
    }

    private void settle() {
        int last = x.day() - 1;
        tell("read", () -> x.read(last, 5, 0, 0, -9));
        tell("read", () -> x.read(0, 4, 1, 3, 1));
        tell("gapPrice", () -> x.gapPrice(last, 0));
        tellBills(last);
        tell("run", () -> x.run(0));
        tell("run", () -> x.run(0));
        tell("run", () -> x.run(0));
        tell("run", () -> x.run(0));
        tell("run", () -> x.run(last));
        for (int f = 0; f < 6; f++) {
            int firm = f;
            tell("deposit", () -> x.deposit(firm, 100000));
            tell("account", () -> x.account(firm));
        }
        tell("house", x::house);
    }
}
