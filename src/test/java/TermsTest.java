import java.util.function.Supplier;

/**
 * The sentences of 'Terms', and those of the promises that say what a call does at an edge: each
 * part is named by the sentence that it is for.
 */
public final class TermsTest {
    private static final Class<IllegalStateException> STATE = IllegalStateException.class;

    private static final Check CHECK = new Check();
    private static final Twins TWINS = new Twins(CHECK);

    public static void main(String[] args) {
        constants();
        oneAnother();
        openOrAired();
        revisedAtAnyTime();
        openOrClosed();
        rivals();
        rivalsNextToIt();
        plannedAtFirst();
        whatCanBecomeOfSpots();
        roomOfBreak();
        eachSetOfReasons();
        roomJustEnough();
        spotsThatCount();
        movedSpotDoesNotCount();
        moveWhereItIs();
        whatIsThereStays();
        deliveredAsItIsNow();
        deliveredPaidAndFree();
        owedIfAboveZero();
        restNotBelowZero();
        airPlannedSpots();
        closeDropsPlannedSpots();
        closedGetsNoPaidSpots();
        whyNotOfClosedAndFull();
        giveDownToZero();
        fillGreatestOfSeveral();
        fillRatedZero();
        fillUpToThePromise();
        fillNoSuchBreak();
        fillPlacesPaidSpots();
        missOfEither();
        billOfPaidAired();
        billToAll();
        mostOwedOfSeveral();
        CHECK.end();
    }

    private static void constants() {
        CHECK.begin("Terms: NONE = -1; PLANNED = 0, AIRED = 1, MISSED = 2, DROPPED = 3");
        CHECK.due("NONE", SpotAccount.NONE, -1);
        CHECK.due("PLANNED", SpotAccount.PLANNED, 0);
        CHECK.due("AIRED", SpotAccount.AIRED, 1);
        CHECK.due("MISSED", SpotAccount.MISSED, 2);
        CHECK.due("DROPPED", SpotAccount.DROPPED, 3);
    }

    // ---- breaks

    private static void oneAnother() {
        CHECK.begin("Terms: they follow one another in this order [all pairs of 24 breaks]");
        for (int rival = 0; rival < 24; rival++) {
            Account account = Scenes.breaks(24, 60);
            Scenes.order(account, 0, 0, 500);
            Scenes.order(account, 1, 0, 500);
            account.place(1, rival);
            for (int at = 0; at < 24; at++) {
                int away = Math.abs(at - rival);
                int due = away == 0 ? 5 : away == 1 ? 6 : 0;
                CHECK.due("whyNot(0, " + at + "), rival in " + rival, account.whyNot(0, at), due);
            }
        }
        Account later = Scenes.breaks(1, 60);
        Scenes.order(later, 0, 0, 500);
        Scenes.order(later, 1, 0, 500);
        later.place(1, 0);
        CHECK.due("addBreak", later.addBreak(60), 1);
        CHECK.due("a break that is added later is next to it", later.whyNot(0, 1), 6);
    }

    private static void openOrAired() {
        CHECK.begin("Terms: it is open, or aired [open at first; one is aired, the others not]");
        for (int aired = 0; aired < 24; aired++) {
            Account account = Scenes.breaks(24, 60);
            CHECK.due("isAired", account.isAired(aired), false);
            CHECK.due("air, without spots", account.air(aired), 0);
            for (int at = 0; at < 24; at++) {
                CHECK.due("isAired", account.isAired(at), at == aired);
            }
        }
    }

    private static void revisedAtAnyTime() {
        CHECK.begin("Terms: Ratings can be revised at any time, also of a break that is aired.");
        Account account = Scenes.lively();
        CHECK.due("rate of an aired break", account.rate(0, 0, 100000), 10);
        CHECK.due("rate of an aired break", account.rate(0, 0, 0), 100000);
        CHECK.due("rating", account.rating(0, 0), 0);
        CHECK.due("rating of another group", account.rating(0, 1), 30);
        CHECK.due("isAired(0)", account.isAired(0), true);
        CHECK.due("rate of an open break with spots", account.rate(1, 0, 0), 11);
        CHECK.due("rate to the same", account.rate(1, 0, 0), 0);
    }

    // ---- orders and rivals

    private static void openOrClosed() {
        CHECK.begin("Terms: It is open or closed, open at first [one is closed, the others not]");
        for (int closed = 0; closed < 20; closed++) {
            Account account = Scenes.orders(20);
            account.addBreak(600);
            CHECK.due("close", account.close(closed), closed);
            for (int order = 0; order < 20; order++) {
                CHECK.due("owed", account.owed(order), order == closed ? closed : 0);
                String due = order == closed ? "IllegalStateException" : "" + account.spots();
                int placed = order;
                String got = Check.answer(() -> account.place(placed, 0));
                CHECK.due("place(" + order + ", 0)", got, due);
                dropLast(account);
            }
            CHECK.due("breaks and what is aired do not close it", account.air(0), 0);
            for (int order = 0; order < 20; order++) {
                int asked = order;
                String due = order == closed ? "IllegalStateException" : "" + order;
                CHECK.due("close", Check.answer(() -> account.close(asked)), due);
            }
        }
    }

    private static void dropLast(Account account) {
        int last = account.spots() - 1;
        if (last >= 0 && account.stateOf(last) == SpotAccount.PLANNED) {
            account.drop(last);
        }
    }

    private static void rivals() {
        CHECK.begin("Terms: rivals if they have the same category and other advertisers");
        int[][] advertisers = {{0, 0}, {0, 9}, {9, 0}, {3, 4}, {9, 9}};
        for (int[] pair : advertisers) {
            for (int categories = 0; categories < 64; categories++) {
                rivalPair(pair[0], categories / 8, pair[1], categories % 8);
            }
        }
    }

    private static void rivalPair(int advertiser, int category, int other, int otherCategory) {
        Account account = Scenes.breaks(3, 60);
        Scenes.order(account, advertiser, category, 500);
        Scenes.order(account, other, otherCategory, 500);
        account.place(0, 1);
        boolean same = advertiser == other;
        boolean rivals = category == otherCategory && !same;
        CHECK.due("whyNot in it", account.whyNot(1, 1), same ? 4 : rivals ? 5 : 0);
        CHECK.due("whyNot before it", account.whyNot(1, 0), rivals ? 6 : 0);
        CHECK.due("whyNot behind it", account.whyNot(1, 2), rivals ? 6 : 0);
        CHECK.due("whyNot of the order itself", account.whyNot(0, 0), 0);
    }

    private static void rivalsNextToIt() {
        CHECK.begin("Terms: (the one before it or the one behind it) [either, both, the ends]");
        int[][] rivalsAt = {{1}, {3}, {1, 3}, {0}, {4}, {0, 4}};
        for (int[] places : rivalsAt) {
            Account account = Scenes.breaks(5, 60);
            Scenes.order(account, 0, 0, 500);
            Scenes.order(account, 1, 0, 500);
            for (int at : places) {
                account.place(1, at);
            }
            int due = places[0] == 1 || places[0] == 3 ? 6 : 0;
            CHECK.due("whyNot(0, 2)", account.whyNot(0, 2), due);
        }
        Account one = Scenes.breaks(1, 60);
        Scenes.order(one, 0, 0, 500);
        CHECK.due("whyNot, the only break", one.whyNot(0, 0), 0);
        Account ends = Scenes.breaks(24, 60);
        Scenes.order(ends, 0, 0, 500);
        Scenes.order(ends, 1, 0, 500);
        ends.place(1, 0);
        CHECK.due("the last break is not next to the first", ends.whyNot(0, 23), 0);
        ends.move(0, 23);
        CHECK.due("the first break is not next to the last", ends.whyNot(0, 0), 0);
    }

    // ---- spots

    private static void plannedAtFirst() {
        CHECK.begin("Terms: It is PLANNED at first");
        Account account = Scenes.breaks(3, 60);
        Scenes.order(account, 0, 0, 500);
        CHECK.due("place", account.place(0, 2), 0);
        CHECK.due("fill", account.fill(0, 1), 1);
        CHECK.due("stateOf(0)", account.stateOf(0), SpotAccount.PLANNED);
        CHECK.due("stateOf(1)", account.stateOf(1), SpotAccount.PLANNED);
        account.close(0);
        CHECK.due("give", account.give(0, 0), 2);
        CHECK.due("stateOf(2)", account.stateOf(2), SpotAccount.PLANNED);
        CHECK.due("breakOf(0)", account.breakOf(0), 2);
        CHECK.due("breakOf(1)", account.breakOf(1), 0);
    }

    private static void whatCanBecomeOfSpots() {
        CHECK.begin("Terms: and can become AIRED, MISSED or DROPPED [from each state, by each call]");
        int[][] due = {
            // after air, miss, drop and close of one that is PLANNED, AIRED, MISSED, DROPPED
            {SpotAccount.AIRED, SpotAccount.MISSED, SpotAccount.DROPPED, SpotAccount.DROPPED},
            {SpotAccount.AIRED, SpotAccount.MISSED, SpotAccount.AIRED, SpotAccount.AIRED},
            {SpotAccount.MISSED, SpotAccount.MISSED, SpotAccount.MISSED, SpotAccount.MISSED},
            {SpotAccount.DROPPED, SpotAccount.DROPPED, SpotAccount.DROPPED, SpotAccount.DROPPED},
        };
        for (int state = 0; state < 4; state++) {
            for (int call = 0; call < 4; call++) {
                Account account = neighbour(state);
                become(account, call);
                String what = "stateOf(0), " + state + " before, after call " + call;
                CHECK.due(what, account.stateOf(0), due[state][call]);
                CHECK.due("breakOf(0)", account.breakOf(0), 2);
                CHECK.due("spots()", account.spots(), 1);
            }
        }
    }

    private static void become(Account account, int call) {
        Check.answer(() -> switch (call) {
            case 0 -> account.air(2);
            case 1 -> account.miss(0) ? 1 : 0;
            case 2 -> {
                account.drop(0);
                yield 0;
            }
            default -> account.close(0);
        });
    }

    private static void roomOfBreak() {
        CHECK.begin("Terms: its length less the seconds of all its spots .. planned or aired");
        Account account = Scenes.breaks(2, 480);
        for (int order = 0; order < 8; order++) {
            account.addOrder(order, order, 0, 60, 1, 500, 0);
            account.place(order, 0);
            CHECK.due("room(0)", account.room(0), 480 - 60 * (order + 1));
        }
        CHECK.due("a full break", account.room(0), 0);
        CHECK.due("whyNot, no room at all", account.whyNot(0, 0), 2);
        account.drop(0);
        CHECK.due("a dropped one is no more in it", account.room(0), 60);
        account.miss(1);
        CHECK.due("a missed one is no more in it", account.room(0), 120);
        account.move(2, 1);
        CHECK.due("a moved one is no more in it", account.room(0), 180);
        CHECK.due("a moved one is in another", account.room(1), 420);
        account.close(3);
        CHECK.due("a closed order's is no more in it", account.room(0), 240);
        CHECK.due("air(0)", account.air(0), 4);
        CHECK.due("aired ones are in it", account.room(0), 240);
        account.miss(4);
        CHECK.due("one that was aired and is missed is not", account.room(0), 300);
    }

    /**
     * Six breaks, of which 2 has just the reasons of the set against order 0, the rivals of reason
     * 6 in the breaks given. A spot of order 0 stands in break 5, where it could not go any more.
     */
    private static Account withReasons(int set, int[] rivalsNextToIt) {
        boolean advertiser = has(set, 4);
        boolean rival = has(set, 5);
        int used = (advertiser ? 15 : 0) + (rival ? 15 : 0);
        Account account = new Account();
        for (int at = 0; at < 6; at++) {
            account.addBreak(at != 2 ? 600 : 60 + used - (has(set, 2) ? 1 : 0));
        }
        account.addOrder(0, 0, 1, 60, 100, 1000, 50);
        account.addOrder(0, 1, 0, 15, 100, 1000, 0);
        account.addOrder(1, 0, 0, 15, 100, 1000, 0);
        account.rate(5, 1, 50);
        account.place(0, 5);
        account.rate(5, 1, 0);
        account.rate(2, 1, has(set, 3) ? 49 : 50);
        if (advertiser) {
            account.place(1, 2);
        }
        if (rival) {
            account.place(2, 2);
        }
        for (int at : rivalsNextToIt) {
            account.place(2, at);
        }
        if (has(set, 1)) {
            account.air(2);
        }
        return account;
    }

    private static boolean has(int set, int reason) {
        return (set & 1 << reason) != 0;
    }

    private static int firstOf(int set) {
        for (int reason = 1; reason <= 6; reason++) {
            if (has(set, reason)) {
                return reason;
            }
        }
        return 0;
    }

    private static void eachSetOfReasons() {
        CHECK.begin("Terms: if none of these is so; the first one that is so is the reason");
        int[][] nextToIt = {{1}, {3}, {1, 3}};
        for (int set = 0; set < 128; set += 2) {
            if (!has(set, 6)) {
                reasonsTold(set, new int[0]);
                continue;
            }
            for (int[] rivals : nextToIt) {
                reasonsTold(set, rivals);
            }
        }
    }

    private static void reasonsTold(int set, int[] rivals) {
        int due = firstOf(set);
        Supplier<Account> scene = () -> withReasons(set, rivals);
        Supplier<Account> closed = () -> {
            Account account = withReasons(set, rivals);
            account.close(0);
            return account;
        };
        CHECK.due("whyNot, set " + set, scene.get().whyNot(0, 2), due);
        CHECK.due("fill, set " + set, scene.get().fill(0, 24), due == 0 ? 1 : 0);
        if (due != 0) {
            TWINS.refused("place, set " + set, scene, STATE, x -> x.place(0, 2));
            TWINS.refused("move, set " + set, scene, STATE, x -> x.move(0, 2));
            TWINS.refused("give, set " + set, closed, STATE, x -> x.give(0, 2));
        } else {
            CHECK.due("place", scene.get().place(0, 2), 1);
            CHECK.due("move", scene.get().move(0, 2), 5);
            CHECK.due("give", closed.get().give(0, 2), 1);
        }
    }

    private static void roomJustEnough() {
        CHECK.begin("Terms: 2. its room is less than the seconds of the order");
        for (int seconds : new int[] {15, 30, 60}) {
            for (int length = 15; length <= 75; length++) {
                Account account = Scenes.breaks(1, length);
                account.addOrder(0, 0, 0, seconds, 1, 500, 0);
                CHECK.due("whyNot", account.whyNot(0, 0), length < seconds ? 2 : 0);
            }
        }
    }

    private static void spotsThatCount() {
        CHECK.begin("Terms: planned or aired, of whichever order [neither missed nor dropped]");
        for (int state = 0; state < 4; state++) {
            boolean counts = state == SpotAccount.PLANNED || state == SpotAccount.AIRED;
            Account account = neighbour(state);
            CHECK.due("stateOf(0)", account.stateOf(0), state);
            CHECK.due("whyNot, a rival next to it", account.whyNot(1, 1), counts ? 6 : 0);
            CHECK.due("whyNot, a rival next to it", account.whyNot(1, 3), counts ? 6 : 0);
            if (state != SpotAccount.AIRED) {
                CHECK.due("whyNot, a rival in it", account.whyNot(1, 2), counts ? 5 : 0);
                CHECK.due("whyNot, its advertiser in it", account.whyNot(0, 2), counts ? 4 : 0);
                CHECK.due("whyNot, another order's in it", account.whyNot(2, 2), counts ? 4 : 0);
                CHECK.due("room(2)", account.room(2), counts ? 30 : 60);
            }
        }
        Account missed = neighbour(SpotAccount.AIRED);
        missed.miss(0);
        CHECK.due("whyNot, one that was aired and is missed", missed.whyNot(1, 1), 0);
        Account closed = neighbour(SpotAccount.AIRED);
        closed.close(0);
        CHECK.due("whyNot, an aired one of a closed order", closed.whyNot(1, 1), 6);
        Account dropped = neighbour(SpotAccount.PLANNED);
        dropped.close(0);
        CHECK.due("whyNot, a planned one of a closed order", dropped.whyNot(1, 1), 0);
        dropped.give(0, 2);
        CHECK.due("whyNot, a free rival next to it", dropped.whyNot(1, 1), 6);
        CHECK.due("whyNot, a free rival in it", dropped.whyNot(1, 2), 5);
        CHECK.due("whyNot, a free one of its advertiser", dropped.whyNot(2, 2), 4);
    }

    /** A spot of such a state in break 2, of order 0; 1 is a rival; 2 has the same advertiser. */
    private static Account neighbour(int state) {
        Account account = Scenes.breaks(5, 60);
        Scenes.order(account, 0, 0, 500);
        Scenes.order(account, 1, 0, 500);
        Scenes.order(account, 0, 3, 500);
        account.place(0, 2);
        if (state == SpotAccount.AIRED) {
            account.air(2);
        }
        if (state == SpotAccount.MISSED) {
            account.miss(0);
        }
        if (state == SpotAccount.DROPPED) {
            account.drop(0);
        }
        return account;
    }

    // ---- moves

    private static void movedSpotDoesNotCount() {
        CHECK.begin("Terms: When a spot is moved, it itself does not count in this.");
        Account account = Scenes.breaks(24, 60);
        account.addOrder(0, 0, 0, 60, 1, 500, 0);
        account.place(0, 0);
        for (int at = 1; at < 24; at++) {
            CHECK.due("move to the next", account.move(0, at), at - 1);
            CHECK.due("room of the break before", account.room(at - 1), 60);
            CHECK.due("room of the break now", account.room(at), 0);
        }
        for (int at = 22; at >= 0; at--) {
            CHECK.due("move to the one before", account.move(0, at), at + 1);
        }
        CHECK.due("move from the first to the last", account.move(0, 23), 0);
        CHECK.due("breakOf(0)", account.breakOf(0), 23);
        CHECK.due("stateOf(0)", account.stateOf(0), SpotAccount.PLANNED);
        Supplier<Account> two = () -> {
            Account other = Scenes.breaks(2, 60);
            Scenes.order(other, 0, 0, 500);
            other.place(0, 0);
            other.place(0, 1);
            return other;
        };
        CHECK.begin("Promise 16: .. or cannot go there [another spot of its order counts]");
        TWINS.refused("move to another of its order", two, STATE, x -> x.move(0, 1));
    }

    private static void moveWhereItIs() {
        CHECK.begin("Promise 16: or leaves it where it is, which is always possible");
        Account account = Scenes.rated(2, 60, 40);
        account.addOrder(0, 0, 0, 60, 1, 500, 40);
        account.place(0, 0);
        CHECK.due("move, no room besides", account.move(0, 0), 0);
        account.rate(0, 0, 39);
        CHECK.due("whyNot(0, 0)", account.whyNot(0, 0), 2);
        CHECK.due("move, below the floor", account.move(0, 0), 0);
        CHECK.due("breakOf(0)", account.breakOf(0), 0);
        CHECK.due("stateOf(0)", account.stateOf(0), SpotAccount.PLANNED);
        CHECK.due("room(0)", account.room(0), 0);
        CHECK.due("move away", account.move(0, 1), 0);
        TWINS.refused("move back, below the floor", TermsTest::movedAway, STATE,
                x -> x.move(0, 0));
        CHECK.due("the last of 150 spots", Scenes.spots(150).move(149, 18), 18);
    }

    private static Account movedAway() {
        Account account = Scenes.rated(2, 60, 40);
        account.addOrder(0, 0, 0, 60, 1, 500, 40);
        account.place(0, 0);
        account.rate(0, 0, 39);
        account.move(0, 1);
        return account;
    }

    private static void whatIsThereStays() {
        CHECK.begin("Terms: What is there already stays, whatever ratings are revised to.");
        Account account = Scenes.rated(2, 60, 40);
        account.addOrder(0, 0, 0, 30, 100, 500, 40);
        account.place(0, 0);
        account.place(0, 1);
        account.rate(0, 0, 39);
        account.rate(1, 0, 0);
        CHECK.due("stateOf(0)", account.stateOf(0), SpotAccount.PLANNED);
        CHECK.due("breakOf(1)", account.breakOf(1), 1);
        CHECK.due("room(1)", account.room(1), 30);
        CHECK.due("air(0)", account.air(0), 1);
        CHECK.due("air(1)", account.air(1), 1);
        CHECK.due("delivered(0)", account.delivered(0), 39);
        CHECK.due("bill(0)", account.bill(0), 200);
        account.rate(0, 0, 0);
        CHECK.due("stateOf(0), revised when aired", account.stateOf(0), SpotAccount.AIRED);
        CHECK.due("bill(0), revised when aired", account.bill(0), 200);
    }

    // ---- audience

    private static void deliveredAsItIsNow() {
        CHECK.begin("Terms: the rating of its break for the group of its order, as it is now");
        Account account = Scenes.breaks(2, 60);
        account.addOrder(0, 0, 2, 30, 100, 500, 0);
        account.place(0, 1);
        account.rate(1, 2, 7);
        CHECK.due("delivered(0), planned", account.delivered(0), 0);
        account.air(1);
        CHECK.due("delivered(0), aired", account.delivered(0), 7);
        for (int rating : new int[] {0, 1, 99999, 100000, 0}) {
            account.rate(1, 2, rating);
            CHECK.due("delivered(0), revised", account.delivered(0), rating);
        }
        account.rate(1, 0, 50);
        account.rate(1, 1, 60);
        account.rate(0, 2, 70);
        CHECK.due("delivered(0), others revised", account.delivered(0), 0);
        account.rate(1, 2, 9);
        account.miss(0);
        CHECK.due("delivered(0), missed", account.delivered(0), 0);
    }

    private static void deliveredPaidAndFree() {
        CHECK.begin("Terms: An order has delivered what all its aired spots have, paid and free.");
        Account account = Scenes.rated(3, 60, 40);
        Scenes.order(account, 0, 0, 100);
        account.place(0, 0);
        account.air(0);
        account.close(0);
        account.give(0, 1);
        CHECK.due("delivered(0), the free one planned", account.delivered(0), 40);
        account.air(1);
        CHECK.due("delivered(0), the free one aired", account.delivered(0), 80);
        CHECK.due("owed(0)", account.owed(0), 20);
        account.miss(1);
        CHECK.due("delivered(0), the free one missed", account.delivered(0), 40);
        CHECK.due("owed(0)", account.owed(0), 60);
    }

    private static void owedIfAboveZero() {
        CHECK.begin("Terms: its promise less .. delivered, if that is above 0, otherwise nothing");
        int[] ratings = {0, 1, 99, 100, 101, 100000};
        int[] due = {100, 99, 1, 0, 0, 0};
        for (int number = 0; number < ratings.length; number++) {
            Account account = Scenes.rated(1, 60, ratings[number]);
            Scenes.order(account, 0, 0, 100);
            account.place(0, 0);
            account.air(0);
            CHECK.due("owed(0), open: nothing", account.owed(0), 0);
            CHECK.due("rest(0), open: nothing", account.rest(0), 0);
            CHECK.due("mostOwed(), open: none", account.mostOwed(), -1);
            CHECK.due("close(0)", account.close(0), due[number]);
            CHECK.due("owed(0), closed", account.owed(0), due[number]);
            CHECK.due("rest(0), closed", account.rest(0), due[number]);
            CHECK.due("mostOwed(), closed", account.mostOwed(), due[number] > 0 ? 0 : -1);
        }
        Account revised = Scenes.rated(1, 60, 100);
        Scenes.order(revised, 0, 0, 100);
        revised.place(0, 0);
        revised.air(0);
        CHECK.due("close(0)", revised.close(0), 0);
        revised.rate(0, 0, 99);
        CHECK.due("owed(0), revised later", revised.owed(0), 1);
        revised.miss(0);
        CHECK.due("owed(0), missed later", revised.owed(0), 100);
    }

    private static void restNotBelowZero() {
        CHECK.begin("Terms: its planned free spots for its group, but not below 0");
        Account account = Scenes.rated(3, 60, 40);
        Scenes.order(account, 0, 0, 100);
        account.close(0);
        account.give(0, 0);
        account.give(0, 1);
        int[] ratings = {0, 59, 60, 61, 100000};
        int[] due = {60, 1, 0, 0, 0};
        for (int number = 0; number < ratings.length; number++) {
            account.rate(1, 0, ratings[number]);
            CHECK.due("rest(0)", account.rest(0), due[number]);
            CHECK.due("owed(0)", account.owed(0), 100);
        }
        account.rate(1, 1, 50);
        account.rate(1, 0, 40);
        CHECK.due("rest(0), other groups do not count", account.rest(0), 20);
        account.drop(1);
        CHECK.due("rest(0), a dropped one does not count", account.rest(0), 60);
        account.miss(0);
        CHECK.due("rest(0), a missed one does not count", account.rest(0), 100);
        account.give(0, 2);
        CHECK.due("rest(0)", account.rest(0), 60);
        account.air(2);
        CHECK.due("rest(0), an aired one is delivered", account.rest(0), 60);
        CHECK.due("owed(0), an aired one is delivered", account.owed(0), 60);
    }

    // ---- what calls do

    private static void airPlannedSpots() {
        CHECK.begin("Promise 4: its planned spots are aired. Returns how many .. by that");
        Account account = Scenes.breaks(2, 480);
        for (int order = 0; order < 8; order++) {
            account.addOrder(order, order, 0, 60, 1, 500, 0);
            account.place(order, 1);
        }
        account.drop(0);
        account.miss(7);
        account.move(3, 0);
        CHECK.due("air(1)", account.air(1), 5);
        int[] states = {3, 1, 1, 0, 1, 1, 1, 2};
        for (int spot = 0; spot < 8; spot++) {
            CHECK.due("stateOf(" + spot + ")", account.stateOf(spot), states[spot]);
        }
        CHECK.due("air(0)", account.air(0), 1);
        CHECK.due("stateOf(3)", account.stateOf(3), SpotAccount.AIRED);
    }

    private static void closeDropsPlannedSpots() {
        CHECK.begin("Promise 10: its planned spots are dropped [its aired, missed ones stay]");
        Account account = Scenes.rated(24, 60, 1);
        Scenes.order(account, 0, 0, 1000);
        Scenes.order(account, 1, 1, 1000);
        account.fill(0, 24);
        account.fill(1, 24);
        account.air(0);
        account.miss(1);
        account.miss(0);
        account.air(23);
        CHECK.due("close(0)", account.close(0), 999);
        for (int spot = 0; spot < 24; spot++) {
            int due = spot < 2
                    ? SpotAccount.MISSED
                    : spot == 23 ? SpotAccount.AIRED : SpotAccount.DROPPED;
            CHECK.due("stateOf(" + spot + ")", account.stateOf(spot), due);
        }
        for (int spot = 24; spot < 48; spot++) {
            int due = spot == 24 || spot == 47 ? SpotAccount.AIRED : SpotAccount.PLANNED;
            CHECK.due("another's, stateOf(" + spot + ")", account.stateOf(spot), due);
        }
        CHECK.due("spots()", account.spots(), 48);
    }

    private static void closedGetsNoPaidSpots() {
        CHECK.begin("Promise 10: no paid ones are placed any more [but free ones are]");
        Supplier<Account> scene = () -> {
            Account account = Scenes.rated(2, 60, 40);
            Scenes.order(account, 0, 0, 100);
            account.close(0);
            return account;
        };
        TWINS.refused("place", scene, STATE, x -> x.place(0, 0));
        TWINS.refused("fill", scene, STATE, x -> x.fill(0, 1));
        Account account = scene.get();
        CHECK.due("give", account.give(0, 0), 0);
        account.air(0);
        CHECK.due("bill(0)", account.bill(0), 0);
        CHECK.due("delivered(0)", account.delivered(0), 40);
    }

    private static void whyNotOfClosedAndFull() {
        CHECK.begin("Promise 12: Returns the reason, 1 to 6; 0 if it can [the six, no other]");
        Account account = Scenes.spots(150);
        CHECK.due("150 spots", account.whyNot(Scenes.FULL_OPEN_ORDER, 23), 0);
        CHECK.due("150 spots, closed", account.whyNot(Scenes.FULL_CLOSED_ORDER, 0), 0);
        CHECK.due("closed, owed nothing", Scenes.lively().whyNot(2, 1), 0);
        CHECK.due("closed, aired", Scenes.lively().whyNot(2, 0), 1);
        CHECK.due("closed, its own spot in it", Scenes.lively().whyNot(1, 2), 4);
    }

    private static void giveDownToZero() {
        CHECK.begin("Promise 14: Throws IllegalStateException if the rest of the order is 0");
        for (int promise : new int[] {1, 2, 3}) {
            Supplier<Account> scene = () -> {
                Account account = Scenes.rated(4, 60, 1);
                Scenes.order(account, 0, 0, promise);
                account.close(0);
                for (int at = 0; at < promise; at++) {
                    CHECK.due("give", account.give(0, at), at);
                }
                return account;
            };
            CHECK.due("rest(0)", scene.get().rest(0), 0);
            TWINS.refused("one more", scene, STATE, x -> x.give(0, 3));
        }
        Supplier<Account> nothing = () -> {
            Account account = Scenes.rated(1, 60, 1);
            Scenes.order(account, 0, 0, 0);
            account.close(0);
            return account;
        };
        TWINS.refused("nothing promised", nothing, STATE, x -> x.give(0, 0));
        Account zero = Scenes.rated(2, 60, 0);
        Scenes.order(zero, 0, 0, 1);
        zero.close(0);
        CHECK.due("give, rated 0", zero.give(0, 0), 0);
        CHECK.due("the rest is left", zero.give(0, 1), 1);
    }

    private static void fillGreatestOfSeveral() {
        CHECK.begin("Promise 15: the greatest .., of several the first one");
        for (int first = 0; first < 24; first++) {
            Account account = Scenes.rated(24, 60, 99999);
            for (int at = first; at < 24; at += 5) {
                account.rate(at, 0, 100000);
            }
            account.rate(0, 1, 100000);
            Scenes.order(account, 0, 0, 1000000);
            CHECK.due("fill(0, 1)", account.fill(0, 1), 1);
            CHECK.due("breakOf(0)", account.breakOf(0), first);
        }
        Account account = Scenes.rated(6, 60, 10);
        account.rate(1, 0, 30);
        account.rate(3, 0, 20);
        account.rate(4, 0, 30);
        account.rate(5, 0, 20);
        account.addOrder(0, 0, 0, 30, 1, 1000, 11);
        account.air(4);
        CHECK.due("fill(0, 24), where it can go", account.fill(0, 24), 3);
        CHECK.due("breakOf(0)", account.breakOf(0), 1);
        CHECK.due("breakOf(1)", account.breakOf(1), 3);
        CHECK.due("breakOf(2)", account.breakOf(2), 5);
    }

    private static void fillRatedZero() {
        CHECK.begin("Promise 15: (also if that is 0)");
        Account account = Scenes.breaks(24, 60);
        Scenes.order(account, 0, 0, 1);
        CHECK.due("fill(0, 24)", account.fill(0, 24), 24);
        for (int spot = 0; spot < 24; spot++) {
            CHECK.due("breakOf", account.breakOf(spot), spot);
        }
        Account mixed = Scenes.breaks(3, 60);
        mixed.rate(2, 0, 1);
        Scenes.order(mixed, 0, 0, 5);
        CHECK.due("fill(0, 2)", mixed.fill(0, 2), 2);
        CHECK.due("breakOf(0)", mixed.breakOf(0), 2);
        CHECK.due("breakOf(1)", mixed.breakOf(1), 0);
    }

    private static void fillUpToThePromise() {
        CHECK.begin("Promise 15: as long as .. are less than its promise together");
        int[] promises = {0, 1, 39, 40, 41, 79, 80, 81, 119, 120, 121, 1000000};
        int[] due = {0, 1, 1, 1, 2, 2, 2, 3, 3, 3, 4, 5};
        for (int number = 0; number < promises.length; number++) {
            Account account = Scenes.rated(5, 60, 40);
            Scenes.order(account, 0, 0, promises[number]);
            CHECK.due("fill, promise " + promises[number], account.fill(0, 24), due[number]);
        }
        for (int aired = 0; aired < 3; aired++) {
            for (int gone = 0; gone < 2; gone++) {
                fillWithSomeThere(aired, gone == 0);
            }
        }
        Account two = Scenes.rated(5, 60, 40);
        Scenes.order(two, 0, 0, 80);
        Scenes.order(two, 1, 1, 80);
        two.fill(1, 24);
        CHECK.due("another order's spots do not count", two.fill(0, 24), 2);
        Account groups = Scenes.rated(5, 60, 40);
        groups.addOrder(0, 0, 2, 30, 1, 80, 0);
        CHECK.due("another group's ratings do not count", groups.fill(0, 24), 5);
    }

    /** Three spots of 40 are there, some aired and one missed or dropped; 120 are promised. */
    private static void fillWithSomeThere(int aired, boolean missed) {
        Account account = Scenes.rated(6, 60, 40);
        Scenes.order(account, 0, 0, 120);
        CHECK.due("fill(0, 3)", account.fill(0, 3), 3);
        CHECK.due("enough", account.fill(0, 24), 0);
        for (int at = 0; at < aired; at++) {
            account.air(at);
        }
        CHECK.due("enough, " + aired + " aired", account.fill(0, 24), 0);
        if (missed) {
            account.miss(0);
        } else {
            account.drop(2);
        }
        CHECK.due("one is gone", account.fill(0, 24), 1);
        account.rate(1, 0, 39);
        CHECK.due("one is rated less", account.fill(0, 24), 1);
        account.rate(1, 0, 0);
        CHECK.due("one is rated 0: the sum is 120 yet", account.fill(0, 24), 0);
    }

    private static void fillNoSuchBreak() {
        CHECK.begin("Promise 15: as long as .. there is such a break");
        Account aired = Scenes.rated(2, 60, 40);
        Scenes.order(aired, 0, 0, 500);
        aired.air(0);
        aired.air(1);
        CHECK.due("all are aired", aired.fill(0, 24), 0);
        Account tooShort = Scenes.rated(3, 29, 40);
        Scenes.order(tooShort, 0, 0, 500);
        CHECK.due("all are too short", tooShort.fill(0, 24), 0);
        Account low = Scenes.rated(3, 60, 40);
        low.addOrder(0, 0, 0, 30, 1, 500, 41);
        CHECK.due("all are below the floor", low.fill(0, 24), 0);
        Account own = Scenes.rated(3, 60, 40);
        Scenes.order(own, 0, 0, 500);
        CHECK.due("fill", own.fill(0, 24), 3);
        CHECK.due("its advertiser is in all", own.fill(0, 24), 0);
        Account rival = Scenes.rated(3, 60, 40);
        Scenes.order(rival, 0, 0, 500);
        Scenes.order(rival, 1, 0, 500);
        rival.place(1, 1);
        CHECK.due("a rival is in or next to all", rival.fill(0, 24), 0);
        CHECK.due("spots()", rival.spots(), 1);
    }

    private static void fillPlacesPaidSpots() {
        CHECK.begin("Promise 15: Places paid spots of an order");
        Account account = Scenes.rated(3, 60, 40);
        Scenes.order(account, 0, 0, 500);
        CHECK.due("fill(0, 24)", account.fill(0, 24), 3);
        account.air(0);
        account.air(2);
        CHECK.due("bill(0)", account.bill(0), 200);
    }

    private static void missOfEither() {
        CHECK.begin("Promise 17: A planned or aired spot .. Returns true if it was aired before.");
        Account account = Scenes.lively();
        CHECK.due("miss of an aired paid one", account.miss(0), true);
        CHECK.due("miss of a planned paid one", account.miss(1), false);
        CHECK.due("miss of an aired one of a closed order", account.miss(4), true);
        CHECK.due("miss of a planned free one", account.miss(6), false);
        for (int spot : new int[] {0, 1, 4, 6}) {
            CHECK.due("stateOf(" + spot + ")", account.stateOf(spot), SpotAccount.MISSED);
        }
        CHECK.due("owed(1)", account.owed(1), 80);
        CHECK.due("rest(1)", account.rest(1), 80);
        CHECK.due("bill(0)", account.bill(0), 0);
        CHECK.due("room(0)", account.room(0), 60);
        CHECK.due("it stays in its break", account.breakOf(0), 0);
        CHECK.due("the break stays aired", account.isAired(0), true);
    }

    // ---- bills

    private static void billOfPaidAired() {
        CHECK.begin("Promise 25: its price for each of its paid spots that is aired");
        Account account = Scenes.rated(5, 60, 10);
        account.addOrder(0, 0, 0, 15, 7, 100, 0);
        for (int at = 0; at < 5; at++) {
            account.place(0, at);
            CHECK.due("bill(0), planned", account.bill(0), 0);
        }
        for (int at = 0; at < 4; at++) {
            account.air(at);
            CHECK.due("bill(0), aired", account.bill(0), 7 * (at + 1));
        }
        account.miss(0);
        CHECK.due("bill(0), one missed", account.bill(0), 21);
        account.close(0);
        CHECK.due("bill(0), closed", account.bill(0), 21);
        account.give(0, 4);
        account.air(4);
        CHECK.due("bill(0), a free one aired", account.bill(0), 21);
    }

    private static void billToAll() {
        CHECK.begin("Promise 26: the bills of all orders of an advertiser, together");
        Account account = Scenes.breaks(20, 60);
        int due = 0;
        for (int order = 0; order < 20; order++) {
            account.addOrder(9, order % 8, 0, 15, 1 << order % 19, 100, 0);
            account.place(order, order);
            CHECK.due("billTo(9), one is planned", account.billTo(9), due);
            account.air(order);
            due += 1 << order % 19;
            CHECK.due("billTo(9), it is aired", account.billTo(9), due);
            if (order % 2 == 0) {
                account.close(order);
            }
        }
        CHECK.due("billTo(9), open and closed ones", account.billTo(9), due);
        CHECK.due("billTo(0), without an order", account.billTo(0), 0);
        CHECK.due("billTo(8), without an order", account.billTo(8), 0);
    }

    private static void mostOwedOfSeveral() {
        CHECK.begin("Promise 27: the greatest rest; of several the lowest; NONE if .. above 0");
        for (int most = 0; most < 20; most++) {
            Account account = new Account();
            for (int order = 0; order < 20; order++) {
                Scenes.order(account, 0, 0, order == most || order == 19 ? 8 : 7);
            }
            CHECK.due("mostOwed(), all open", account.mostOwed(), SpotAccount.NONE);
            for (int order = 0; order < 20; order++) {
                account.close(order);
            }
            CHECK.due("mostOwed()", account.mostOwed(), most);
        }
        Account same = Scenes.rated(2, 600, 5);
        for (int order = 0; order < 4; order++) {
            Scenes.order(same, order, order, 5);
            same.close(order);
        }
        for (int order = 0; order < 4; order++) {
            CHECK.due("mostOwed(), those before have no rest", same.mostOwed(), order);
            same.give(order, 0);
        }
        CHECK.due("mostOwed(), no order has a rest", same.mostOwed(), SpotAccount.NONE);
        same.rate(0, 0, 4);
        CHECK.due("mostOwed(), all have a rest of 1", same.mostOwed(), 0);
        same.air(0);
        CHECK.due("mostOwed(), all are aired", same.mostOwed(), 0);
        same.rate(0, 0, 5);
        CHECK.due("mostOwed(), all are owed nothing", same.mostOwed(), SpotAccount.NONE);
    }
}
