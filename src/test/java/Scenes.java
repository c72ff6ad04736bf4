/**
 * Accounts to begin with, each made anew by the same calls, so that a test can have twins of it.
 * None takes more than 200 of the 512 calls that the document promises of an object.
 */
final class Scenes {
    static final int MOST_BREAKS = 24;
    static final int MOST_ORDERS = 20;
    static final int MOST_SPOTS = 150;

    /** In a full account: an open order without spots, and a closed one that is owed something. */
    static final int FULL_OPEN_ORDER = 7;
    static final int FULL_CLOSED_ORDER = 8;

    private Scenes() {
    }

    static Account breaks(int count, int seconds) {
        Account account = new Account();
        for (int at = 0; at < count; at++) {
            account.addBreak(seconds);
        }
        return account;
    }

    /** Breaks that are rated the same for group 0, and 0 for the others. */
    static Account rated(int count, int seconds, int rating) {
        Account account = breaks(count, seconds);
        for (int at = 0; at < count; at++) {
            account.rate(at, 0, rating);
        }
        return account;
    }

    /** An order of group 0, 30 seconds, price 100, floor 0. */
    static int order(Account account, int advertiser, int category, int promise) {
        return account.addOrder(advertiser, category, 0, 30, 100, promise, 0);
    }

    static Account orders(int count) {
        Account account = new Account();
        for (int order = 0; order < count; order++) {
            order(account, order % 10, order % 8, order);
        }
        return account;
    }

    /** An account of 24 breaks with so many spots, all planned; a break rates its number and 1. */
    static Account spots(int count) {
        Account account = breaks(MOST_BREAKS, 600);
        for (int at = 0; at < MOST_BREAKS; at++) {
            account.rate(at, 0, at + 1);
        }
        for (int order = 0; order < FULL_OPEN_ORDER; order++) {
            account.addOrder(order, order, 0, 15, 100 + order, 1000000, 0);
        }
        account.addOrder(7, 7, 0, 15, 100, 1000000, 0);
        account.addOrder(8, 7, 0, 15, 100, 500, 0);
        account.close(FULL_CLOSED_ORDER);
        for (int order = 0; account.spots() < count; order++) {
            account.fill(order, Math.min(MOST_BREAKS, count - account.spots()));
        }
        return account;
    }

    /**
     * Eight breaks, of which the first is aired; an open order 0 with a spot of each state, 0 to 3;
     * an order 1 that is closed and has a rest of 20, with an aired, a dropped and a planned free
     * spot, 4 to 6; an order 2 that is closed and owed nothing; an open order 3, a rival of 0.
     */
    static Account lively() {
        Account account = breaks(8, 60);
        for (int at = 0; at < 8; at++) {
            account.rate(at, 0, 10 + at);
            account.rate(at, 1, 30);
        }
        account.addOrder(0, 0, 0, 30, 100, 500, 10);
        account.addOrder(1, 1, 1, 15, 200, 80, 0);
        account.addOrder(2, 2, 2, 15, 300, 0, 0);
        account.addOrder(3, 0, 0, 60, 400, 500, 0);
        for (int at = 0; at < 4; at++) {
            account.place(0, at);
        }
        account.place(1, 0);
        account.place(1, 1);
        account.air(0);
        account.miss(2);
        account.drop(3);
        account.close(1);
        account.close(2);
        account.give(1, 2);
        return account;
    }
}
