/** Markets in the states that calls are asked in. */
final class Markets {
    private Markets() {
    }

    static GridMarket fresh() {
        return new GridMarket();
    }

    static GridMarket cleared() {
        GridMarket x = new GridMarket();
        x.clear();
        return x;
    }

    static void endDay(GridMarket x) {
        x.clear();
        x.close();
    }

    /** Day 1, open for bids; nothing was told on day 0. */
    static GridMarket nextDay() {
        GridMarket x = new GridMarket();
        endDay(x);
        return x;
    }

    /** Firm 0 would sell 9 units for 10, firm 1 buy 5 for 30, in zone 0 and hour 0: 5 units at the price 10. */
    static GridMarket toBeSold() {
        GridMarket x = new GridMarket();
        x.bid(0, 0, 0, false, 10, 9);
        x.bid(1, 0, 0, true, 30, 5);
        return x;
    }

    /** As toBeSold, and day 0 is closed. */
    static GridMarket sold() {
        GridMarket x = toBeSold();
        endDay(x);
        return x;
    }

    /** Day 1, open for bids; firm 0 failed by 50, firm 1 got 50, the house gave 50. */
    static GridMarket failed() {
        GridMarket x = new GridMarket();
        x.bid(0, 0, 0, true, 100, 1);
        x.bid(1, 0, 0, false, 50, 1);
        x.bid(1, 0, 0, false, 50, 1);
        endDay(x);
        x.run(0);
        return x;
    }

    static GridMarket failedAndCleared() {
        GridMarket x = failed();
        x.clear();
        return x;
    }

    static GridMarket bids(int count) {
        GridMarket x = new GridMarket();
        for (int n = 0; n < count; n++) {
            x.bid(n % 6, n % 3, n % 4, n % 2 == 0, n * 37 % 201, 1 + n % 10);
        }
        return x;
    }

    static GridMarket blocks(int count) {
        GridMarket x = new GridMarket();
        x.bid(0, 0, 0, true, 60, 10);
        x.bid(0, 0, 0, true, 50, 10);
        for (int n = 0; n < count; n++) {
            x.block(n, 0, 1, false, 10 + n, 3);
        }
        return x;
    }

    static GridMarket blocksCleared() {
        GridMarket x = blocks(3);
        x.clear();
        return x;
    }

    static GridMarket asks(int count) {
        GridMarket x = new GridMarket();
        for (int n = 0; n < count; n++) {
            x.ask(n % 6, n % 3, (n + 1 + n % 2) % 3, 1 + n % 3, n * 97 % 501);
        }
        return x;
    }

    static GridMarket asksCleared() {
        GridMarket x = asks(3);
        x.clear();
        return x;
    }

    static GridMarket offers(int count) {
        GridMarket x = cleared();
        for (int n = 0; n < count; n++) {
            x.offer(n % 6, n % 3, n % 4, n % 2 == 0, n * 61 % 301, 1 + n % 10);
        }
        return x;
    }

    /** 5 units are left of offer 0, nothing of 1 and 2, which met, and nothing of 3, which was taken back. */
    static GridMarket fourOffers() {
        GridMarket x = cleared();
        x.offer(0, 0, 0, false, 30, 5);
        x.offer(1, 0, 0, false, 20, 2);
        x.offer(2, 0, 0, true, 20, 2);
        x.offer(3, 0, 0, false, 40, 7);
        x.takeBack(3);
        return x;
    }

    static GridMarket aids(int count) {
        GridMarket x = new GridMarket();
        for (int n = 0; n < count; n++) {
            x.aid(n % 6, n % 4, n % 2 == 0, n * 43 % 301, 1 + n % 10);
        }
        return x;
    }

    /** Firm 0 has deposited 100000 so many times. */
    static GridMarket deposited(int times) {
        GridMarket x = new GridMarket();
        for (int n = 0; n < times; n++) {
            x.deposit(0, 100000);
        }
        return x;
    }

    static GridMarket runs(int count) {
        GridMarket x = sold();
        for (int n = 0; n < count; n++) {
            x.run(0);
        }
        return x;
    }

    /** Days 0 and 1 are closed, day 2 is cleared. */
    static GridMarket dayTwo() {
        GridMarket x = sold();
        x.bid(0, 1, 3, false, 20, 2);
        x.bid(1, 1, 3, true, 30, 1);
        endDay(x);
        x.clear();
        return x;
    }

    static GridMarket dayNine() {
        GridMarket x = new GridMarket();
        for (int day = 0; day < 9; day++) {
            endDay(x);
        }
        return x;
    }

    static GridMarket dayNineCleared() {
        GridMarket x = dayNine();
        x.clear();
        return x;
    }

    /** The limits of all lines. */
    static GridMarket limits(int line0, int line1, int line2) {
        GridMarket x = new GridMarket();
        x.setLimit(0, line0);
        x.setLimit(1, line1);
        x.setLimit(2, line2);
        return x;
    }
}
