import java.util.function.Supplier;

/**
 * "If several exceptions apply, the first one of the throws clause is thrown. A call that throws
 * changes nothing." Each part is named by the sentence of the throws clause that it is for; that
 * nothing changes is looked at in each of them.
 */
public final class RefusedTest {
    private static final Class<IndexOutOfBoundsException> NO_SUCH = IndexOutOfBoundsException.class;
    private static final Class<IllegalArgumentException> RANGE = IllegalArgumentException.class;
    private static final Class<IllegalStateException> STATE = IllegalStateException.class;

    private static final int[] NO_BREAK = {Integer.MIN_VALUE, -1, 8, Integer.MAX_VALUE};
    private static final int[] NO_ORDER = {Integer.MIN_VALUE, -1, 4, Integer.MAX_VALUE};
    private static final int[] NO_SPOT = {Integer.MIN_VALUE, -1, 7, Integer.MAX_VALUE};

    private static final Check CHECK = new Check();
    private static final Twins TWINS = new Twins(CHECK);

    public static void main(String[] args) {
        lively();
        airAired();
        closeClosed();
        placeClosed();
        placeCannotGo();
        giveRestIsZero();
        giveCannotGo();
        fillClosed();
        moveNotPlanned();
        moveCannotGo();
        missNeither();
        dropNotPlanned();
        addBreakFirst();
        rateFirst();
        ratingFirst();
        addOrderFirst();
        orderAndBreakFirst();
        placeFirst();
        giveFirst();
        fillFirst();
        moveFirst();
        refusedAgainAndAgain();
        CHECK.end();
    }

    private static void lively() {
        CHECK.begin("the account that most of these tests begin with");
        Account account = Scenes.lively();
        int[] states = {1, 0, 2, 3, 1, 3, 0};
        for (int spot = 0; spot < 7; spot++) {
            CHECK.due("stateOf(" + spot + ")", account.stateOf(spot), states[spot]);
        }
        CHECK.due("spots()", account.spots(), 7);
        CHECK.due("rest(1)", account.rest(1), 20);
        CHECK.due("rest(2)", account.rest(2), 0);
    }

    private static void airAired() {
        CHECK.begin("Promise 4: Throws IllegalStateException if it is aired already");
        TWINS.refused("air(0)", Scenes::lively, STATE, x -> x.air(0));
        Supplier<Account> missed = () -> {
            Account account = Scenes.lively();
            account.miss(0);
            account.miss(4);
            return account;
        };
        TWINS.refused("air of one whose spots are missed", missed, STATE, x -> x.air(0));
        Supplier<Account> without = () -> {
            Account account = Scenes.lively();
            account.air(6);
            return account;
        };
        TWINS.refused("air of one without spots", without, STATE, x -> x.air(6));
    }

    private static void closeClosed() {
        CHECK.begin("Promise 10: Throws IllegalStateException if it is closed");
        TWINS.refused("close(1), with a rest", Scenes::lively, STATE, x -> x.close(1));
        TWINS.refused("close(2), owed nothing", Scenes::lively, STATE, x -> x.close(2));
        CHECK.due("the free spot stays", stateAfterSecondClose(), SpotAccount.PLANNED);
    }

    private static int stateAfterSecondClose() {
        Account account = Scenes.lively();
        Check.thrownBy(() -> account.close(1));
        return account.stateOf(6);
    }

    private static void placeClosed() {
        CHECK.begin("Promise 13: Throws IllegalStateException if the order is closed");
        for (int at = 0; at < 8; at++) {
            int to = at;
            TWINS.refused("place(1, " + to + ")", Scenes::lively, STATE, x -> x.place(1, to));
            TWINS.refused("place(2, " + to + ")", Scenes::lively, STATE, x -> x.place(2, to));
        }
        CHECK.due("whyNot, it could go there", Scenes.lively().whyNot(1, 5), 0);
    }

    private static void placeCannotGo() {
        CHECK.begin("Promise 13: Throws IllegalStateException if .. the spot cannot go there");
        for (int order : new int[] {0, 3}) {
            for (int at = 0; at < 8; at++) {
                int to = at;
                if (Scenes.lively().whyNot(order, to) == 0) {
                    CHECK.due("place", Scenes.lively().place(order, to), 7);
                } else {
                    TWINS.refused("place", Scenes::lively, STATE, x -> x.place(order, to));
                }
            }
        }
    }

    private static void giveRestIsZero() {
        CHECK.begin("Promise 14: Throws IllegalStateException if the rest of the order is 0");
        TWINS.refused("give, open", Scenes::lively, STATE, x -> x.give(0, 5));
        TWINS.refused("give, owed nothing", Scenes::lively, STATE, x -> x.give(2, 5));
        Supplier<Account> planned = () -> restOf(0);
        TWINS.refused("give, enough is planned", planned, STATE, x -> x.give(1, 5));
        CHECK.due("rest(1)", restOf(0).rest(1), 0);
        CHECK.due("rest(1)", restOf(1).rest(1), 1);
        CHECK.due("give, a rest of 1", restOf(1).give(1, 5), 7);
        CHECK.due("rest(1)", restOf(-1).rest(1), 0);
        Supplier<Account> above = () -> restOf(-1);
        TWINS.refused("give, more than enough is planned", above, STATE, x -> x.give(1, 5));
    }

    /** Order 1 is owed 50: its planned free spot in break 2 leaves so much of that. */
    private static Account restOf(int rest) {
        Account account = Scenes.lively();
        account.rate(2, 1, 50 - rest);
        return account;
    }

    private static void giveCannotGo() {
        CHECK.begin("Promise 14: Throws IllegalStateException if .. the spot cannot go there");
        TWINS.refused("give, reason 1", Scenes::lively, STATE, x -> x.give(1, 0));
        TWINS.refused("give, reason 4", Scenes::lively, STATE, x -> x.give(1, 2));
        CHECK.due("give", Scenes.lively().give(1, 1), 7);
    }

    private static void fillClosed() {
        CHECK.begin("Promise 15: Throws IllegalStateException if the order is closed");
        for (int most = 1; most <= 24; most++) {
            int some = most;
            TWINS.refused("fill, rest left", Scenes::lively, STATE, x -> x.fill(1, some));
            TWINS.refused("fill, owed nothing", Scenes::lively, STATE, x -> x.fill(2, some));
        }
        TWINS.refused("fill, closed with 150 spots", () -> Scenes.spots(150), STATE,
                x -> x.fill(Scenes.FULL_CLOSED_ORDER, 1));
        TWINS.refused("fill, closed without a break", RefusedTest::closedWithoutBreak, STATE,
                x -> x.fill(0, 1));
    }

    private static Account closedWithoutBreak() {
        Account account = Scenes.orders(1);
        account.close(0);
        return account;
    }

    private static void moveNotPlanned() {
        CHECK.begin("Promise 16: Throws IllegalStateException if it is not planned");
        Account account = Scenes.lively();
        for (int spot : new int[] {0, 2, 3, 4, 5}) {
            int own = account.breakOf(spot);
            for (int at = 0; at < 8; at++) {
                int to = at;
                String what = "move(" + spot + ", " + to + (to == own ? "), its own" : ")");
                TWINS.refused(what, Scenes::lively, STATE, x -> x.move(spot, to));
            }
        }
    }

    private static void moveCannotGo() {
        CHECK.begin("Promise 16: Throws IllegalStateException if .. cannot go there");
        TWINS.refused("move, reason 1", Scenes::lively, STATE, x -> x.move(1, 0));
        TWINS.refused("move, reason 1", Scenes::lively, STATE, x -> x.move(6, 0));
        Supplier<Account> rival = () -> {
            Account account = Scenes.lively();
            account.place(3, 6);
            account.drop(6);
            return account;
        };
        TWINS.refused("move, reason 2", rival, STATE, x -> x.move(1, 6));
        TWINS.refused("move, reason 6", rival, STATE, x -> x.move(1, 5));
        TWINS.refused("move, reason 6", rival, STATE, x -> x.move(1, 7));
        TWINS.refused("move of the rival, reason 2", rival, STATE, x -> x.move(7, 1));
        TWINS.refused("move of the rival, reason 6", rival, STATE, x -> x.move(7, 2));
        CHECK.due("move(7, 3)", rival.get().move(7, 3), 6);
    }

    private static void missNeither() {
        CHECK.begin("Promise 17: Throws IllegalStateException if it is neither planned nor aired");
        for (int spot : new int[] {2, 3, 5}) {
            TWINS.refused("miss(" + spot + ")", Scenes::lively, STATE, x -> x.miss(spot));
        }
        Supplier<Account> missed = () -> {
            Account account = Scenes.lively();
            account.miss(0);
            return account;
        };
        TWINS.refused("miss of one that was aired", missed, STATE, x -> x.miss(0));
    }

    private static void dropNotPlanned() {
        CHECK.begin("Promise 18: Throws IllegalStateException if it is not planned");
        for (int spot : new int[] {0, 2, 3, 4, 5}) {
            TWINS.refused("drop(" + spot + ")", Scenes::lively, STATE, x -> x.drop(spot));
        }
        Supplier<Account> free = () -> {
            Account account = Scenes.lively();
            account.air(2);
            return account;
        };
        TWINS.refused("drop of an aired free one", free, STATE, x -> x.drop(6));
    }

    // ---- several exceptions at once

    private static void addBreakFirst() {
        CHECK.begin("Promise 2: seconds out of range comes before 24 breaks");
        for (int seconds : new int[] {Integer.MIN_VALUE, -1, 0, 14, 601, Integer.MAX_VALUE}) {
            TWINS.refused("addBreak", () -> Scenes.breaks(24, 60), RANGE,
                    x -> x.addBreak(seconds));
        }
    }

    private static void rateFirst() {
        CHECK.begin("Promise 3: no such break comes before group or rating out of range");
        for (int at : NO_BREAK) {
            TWINS.refused("rate", Scenes::lively, NO_SUCH, x -> x.rate(at, -1, 5));
            TWINS.refused("rate", Scenes::lively, NO_SUCH, x -> x.rate(at, 3, 5));
            TWINS.refused("rate", Scenes::lively, NO_SUCH, x -> x.rate(at, 0, -1));
            TWINS.refused("rate", Scenes::lively, NO_SUCH, x -> x.rate(at, 0, 100001));
            TWINS.refused("rate", Scenes::lively, NO_SUCH, x -> x.rate(at, 3, 100001));
        }
        TWINS.refused("rate without a break", Account::new, NO_SUCH, x -> x.rate(0, 3, -1));
        TWINS.refused("rate, both", Scenes::lively, RANGE, x -> x.rate(7, 3, 100001));
        TWINS.refused("rate, both", Scenes::lively, RANGE, x -> x.rate(0, -1, -1));
    }

    private static void ratingFirst() {
        CHECK.begin("Promise 8: no such break comes before group out of range");
        for (int at : NO_BREAK) {
            for (int group : new int[] {Integer.MIN_VALUE, -1, 3, Integer.MAX_VALUE}) {
                TWINS.refused("rating", Scenes::lively, NO_SUCH, x -> x.rating(at, group));
            }
        }
        TWINS.refused("rating without a break", Account::new, NO_SUCH, x -> x.rating(0, 3));
    }

    private static void addOrderFirst() {
        CHECK.begin("Promise 9: an argument out of range comes before 20 orders");
        int[] below = {-1, -1, -1, 14, -1, -1, -1};
        int[] above = {10, 8, 3, 61, 1000001, 1000001, 100001};
        for (int place = 0; place < 7; place++) {
            for (int value : new int[] {below[place], above[place], Integer.MIN_VALUE}) {
                int[] a = {0, 0, 0, 15, 0, 0, 0};
                a[place] = value;
                TWINS.refused("addOrder, argument " + place, () -> Scenes.orders(20), RANGE,
                        x -> x.addOrder(a[0], a[1], a[2], a[3], a[4], a[5], a[6]));
            }
        }
        TWINS.refused("addOrder, all", () -> Scenes.orders(20), RANGE,
                x -> x.addOrder(10, 8, 3, 0, -1, -1, -1));
    }

    private static void orderAndBreakFirst() {
        CHECK.begin("Promises 12 to 14: if there is no such order or break [either, both]");
        for (int order : NO_ORDER) {
            for (int at : NO_BREAK) {
                TWINS.refused("whyNot", Scenes::lively, NO_SUCH, x -> x.whyNot(order, at));
                TWINS.refused("place", Scenes::lively, NO_SUCH, x -> x.place(order, at));
                TWINS.refused("give", Scenes::lively, NO_SUCH, x -> x.give(order, at));
            }
            TWINS.refused("whyNot, aired", Scenes::lively, NO_SUCH, x -> x.whyNot(order, 0));
            TWINS.refused("place, aired", Scenes::lively, NO_SUCH, x -> x.place(order, 0));
            TWINS.refused("give, aired", Scenes::lively, NO_SUCH, x -> x.give(order, 0));
        }
    }

    private static void placeFirst() {
        CHECK.begin("Promise 13: no such order or break comes before closed, and before 150 spots");
        for (int at : NO_BREAK) {
            TWINS.refused("place, closed", Scenes::lively, NO_SUCH, x -> x.place(1, at));
            TWINS.refused("place, open", Scenes::lively, NO_SUCH, x -> x.place(0, at));
        }
        Supplier<Account> full = () -> Scenes.spots(150);
        TWINS.refused("place, full", full, NO_SUCH, x -> x.place(Scenes.FULL_OPEN_ORDER, 24));
        TWINS.refused("place, full", full, NO_SUCH, x -> x.place(9, 0));
        TWINS.refused("place, all", full, STATE, x -> x.place(Scenes.FULL_CLOSED_ORDER, 0));
        TWINS.refused("place, full, and it can't go there", full, STATE, x -> x.place(0, 0));
        TWINS.refused("place, closed, and it can't go there", Scenes::lively, STATE,
                x -> x.place(1, 0));
    }

    private static void giveFirst() {
        CHECK.begin("Promise 14: no such order or break comes before a rest of 0, and 150 spots");
        for (int at : NO_BREAK) {
            TWINS.refused("give, open", Scenes::lively, NO_SUCH, x -> x.give(0, at));
            TWINS.refused("give, rest left", Scenes::lively, NO_SUCH, x -> x.give(1, at));
            TWINS.refused("give, owed nothing", Scenes::lively, NO_SUCH, x -> x.give(2, at));
        }
        Supplier<Account> full = () -> Scenes.spots(150);
        TWINS.refused("give, full", full, NO_SUCH, x -> x.give(Scenes.FULL_CLOSED_ORDER, 24));
        TWINS.refused("give, full", full, NO_SUCH, x -> x.give(9, 0));
        TWINS.refused("give, full, a rest of 0", full, STATE, x -> x.give(0, 0));
    }

    private static void fillFirst() {
        CHECK.begin("Promise 15: no such order, then most out of range, then a closed order");
        for (int most : new int[] {Integer.MIN_VALUE, -1, 0, 25, Integer.MAX_VALUE}) {
            for (int order : NO_ORDER) {
                TWINS.refused("fill", Scenes::lively, NO_SUCH, x -> x.fill(order, most));
            }
            TWINS.refused("fill, closed", Scenes::lively, RANGE, x -> x.fill(1, most));
            TWINS.refused("fill, closed", Scenes::lively, RANGE, x -> x.fill(2, most));
            TWINS.refused("fill without an order", Account::new, NO_SUCH,
                    x -> x.fill(0, most));
        }
    }

    private static void moveFirst() {
        CHECK.begin("Promise 16: no such spot or break comes before not planned");
        for (int at : NO_BREAK) {
            for (int spot = 0; spot < 7; spot++) {
                int moved = spot;
                TWINS.refused("move", Scenes::lively, NO_SUCH, x -> x.move(moved, at));
            }
            for (int spot : NO_SPOT) {
                TWINS.refused("move", Scenes::lively, NO_SUCH, x -> x.move(spot, at));
            }
        }
        for (int spot : NO_SPOT) {
            TWINS.refused("move, aired", Scenes::lively, NO_SUCH, x -> x.move(spot, 0));
        }
    }

    private static void refusedAgainAndAgain() {
        CHECK.begin("Terms: A call that throws changes nothing [one after the other]");
        TWINS.refused("many calls", Scenes::lively, STATE, x -> {
            for (int turn = 0; turn < 10; turn++) {
                Check.thrownBy(() -> x.addBreak(601));
                Check.thrownBy(() -> x.rate(1, 0, 100001));
                Check.thrownBy(() -> x.addOrder(0, 0, 0, 45, 0, 0, 0));
                Check.thrownBy(() -> x.air(0));
                Check.thrownBy(() -> x.close(1));
                Check.thrownBy(() -> x.place(1, 5));
                Check.thrownBy(() -> x.give(0, 5));
                Check.thrownBy(() -> x.fill(0, 25));
                Check.thrownBy(() -> x.move(0, 5));
                Check.thrownBy(() -> x.miss(2));
            }
            x.drop(0);
        });
    }
}
