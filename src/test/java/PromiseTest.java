import java.util.function.Consumer;

/** For each promise of the document: ordinary inputs, the edges that it names, and wrong inputs. */
public final class PromiseTest {
    private static final Class<IndexOutOfBoundsException> NO_SUCH = IndexOutOfBoundsException.class;
    private static final Class<IllegalArgumentException> RANGE = IllegalArgumentException.class;
    private static final Class<IllegalStateException> STATE = IllegalStateException.class;

    private static final int[] FAR = {Integer.MIN_VALUE, -1000000, 1000000, Integer.MAX_VALUE};

    private static final Check CHECK = new Check();
    private static final Twins TWINS = new Twins(CHECK);

    public static void main(String[] args) {
        newObject();
        addBreak();
        rate();
        air();
        breaks();
        isAired();
        room();
        rating();
        addOrder();
        addOrderRanges();
        addOrderUpToTwenty();
        close();
        orders();
        whyNotOneByOne();
        whyNotFirstReason();
        whyNotWhatCounts();
        place();
        placeUpToTheLimit();
        give();
        giveUpToTheLimit();
        fill();
        fillChoosesTheGreatest();
        fillEnds();
        move();
        moveRefused();
        miss();
        drop();
        spots();
        stateOf();
        breakOf();
        delivered();
        owed();
        rest();
        bill();
        billTo();
        mostOwed();
        CHECK.end();
    }

    /** The call must throw exactly this exception, and must leave the account as it is. */
    private static void refused(
            String what,
            Account account,
            Class<? extends Exception> want,
            Consumer<Account> call) {
        TWINS.refused(what, account::twin, want, call);
    }

    /** So many breaks of a length; each is rated the same for all groups. */
    private static Account station(int breaks, int seconds, int rating) {
        Account account = new Account();
        for (int at = 0; at < breaks; at++) {
            account.addBreak(seconds);
            for (int group = 0; group < 3; group++) {
                account.rate(at, group, rating);
            }
        }
        return account;
    }

    /** An order of group 0, 30 seconds, price 100, floor 0. */
    private static int order(Account account, int advertiser, int category, int promise) {
        return account.addOrder(advertiser, category, 0, 30, 100, promise, 0);
    }

    private static void newObject() {
        CHECK.begin("promise 1");
        Account account = new Account();
        CHECK.due("breaks()", account.breaks(), 0);
        CHECK.due("orders()", account.orders(), 0);
        CHECK.due("spots()", account.spots(), 0);
        CHECK.due("mostOwed()", account.mostOwed(), SpotAccount.NONE);
        for (int advertiser = 0; advertiser < 10; advertiser++) {
            CHECK.due("billTo", account.billTo(advertiser), 0);
        }
        account.addBreak(60);
        CHECK.due("breaks() of another object", new Account().breaks(), 0);
    }

    private static void addBreak() {
        CHECK.begin("promise 2");
        Account account = new Account();
        refused("addBreak(14)", account, RANGE, x -> x.addBreak(14));
        refused("addBreak(601)", account, RANGE, x -> x.addBreak(601));
        for (int seconds : FAR) {
            refused("addBreak", account, RANGE, x -> x.addBreak(seconds));
        }
        CHECK.due("addBreak(15)", account.addBreak(15), 0);
        CHECK.due("addBreak(600)", account.addBreak(600), 1);
        CHECK.due("room(0)", account.room(0), 15);
        CHECK.due("room(1)", account.room(1), 600);
        CHECK.due("isAired(1)", account.isAired(1), false);
        for (int group = 0; group < 3; group++) {
            CHECK.due("rating", account.rating(1, group), 0);
        }
        for (int at = 2; at < 24; at++) {
            CHECK.due("addBreak", account.addBreak(100 + at), at);
        }
        CHECK.due("room(23)", account.room(23), 123);
        refused("the 25th break", account, STATE, x -> x.addBreak(60));
        refused("a wrong 25th break", account, RANGE, x -> x.addBreak(14));
    }

    private static void rate() {
        CHECK.begin("promise 3");
        Account account = station(2, 60, 0);
        CHECK.due("rate", account.rate(0, 0, 7), 0);
        CHECK.due("rate", account.rate(0, 1, 100000), 0);
        CHECK.due("rate", account.rate(1, 2, 9), 0);
        CHECK.due("rate again", account.rate(0, 1, 0), 100000);
        CHECK.due("rate again", account.rate(0, 0, 8), 7);
        CHECK.due("rating", account.rating(0, 0), 8);
        CHECK.due("rating", account.rating(1, 0), 0);
        CHECK.due("rating", account.rating(1, 2), 9);
        account.air(1);
        CHECK.due("rate of an aired break", account.rate(1, 2, 11), 9);
        CHECK.due("rating", account.rating(1, 2), 11);
        refused("rate", account, NO_SUCH, x -> x.rate(-1, 0, 5));
        refused("rate", account, NO_SUCH, x -> x.rate(2, 0, 5));
        refused("rate", account, NO_SUCH, x -> x.rate(2, 3, 100001));
        refused("rate", account, RANGE, x -> x.rate(0, -1, 5));
        refused("rate", account, RANGE, x -> x.rate(0, 3, 5));
        refused("rate", account, RANGE, x -> x.rate(0, 0, -1));
        refused("rate", account, RANGE, x -> x.rate(0, 0, 100001));
        for (int far : FAR) {
            refused("rate", account, NO_SUCH, x -> x.rate(far, 0, 5));
            refused("rate", account, RANGE, x -> x.rate(0, far, 5));
            refused("rate", account, RANGE, x -> x.rate(0, 0, far));
        }
    }

    private static void air() {
        CHECK.begin("promise 4");
        Account account = station(4, 120, 10);
        order(account, 0, 0, 500);
        order(account, 1, 1, 500);
        order(account, 2, 2, 500);
        account.place(0, 0);
        account.place(1, 0);
        account.place(2, 0);
        account.place(0, 1);
        account.drop(1);
        CHECK.due("air(0)", account.air(0), 2);
        CHECK.due("stateOf(0)", account.stateOf(0), SpotAccount.AIRED);
        CHECK.due("stateOf(1)", account.stateOf(1), SpotAccount.DROPPED);
        CHECK.due("stateOf(2)", account.stateOf(2), SpotAccount.AIRED);
        CHECK.due("stateOf(3)", account.stateOf(3), SpotAccount.PLANNED);
        CHECK.due("isAired(0)", account.isAired(0), true);
        CHECK.due("isAired(1)", account.isAired(1), false);
        CHECK.due("room(0)", account.room(0), 60);
        refused("air again", account, STATE, x -> x.air(0));
        account.miss(3);
        CHECK.due("air(1), its spot missed", account.air(1), 0);
        CHECK.due("stateOf(3)", account.stateOf(3), SpotAccount.MISSED);
        CHECK.due("air(3), without spots", account.air(3), 0);
        refused("air(-1)", account, NO_SUCH, x -> x.air(-1));
        refused("air(4)", account, NO_SUCH, x -> x.air(4));
        for (int far : FAR) {
            refused("air", account, NO_SUCH, x -> x.air(far));
        }
    }

    private static void breaks() {
        CHECK.begin("promise 5");
        Account account = new Account();
        for (int count = 0; count < 24; count++) {
            CHECK.due("breaks()", account.breaks(), count);
            account.addBreak(60);
        }
        account.air(3);
        CHECK.due("breaks()", account.breaks(), 24);
    }

    private static void isAired() {
        CHECK.begin("promise 6");
        Account account = station(24, 60, 0);
        account.air(23);
        CHECK.due("isAired(23)", account.isAired(23), true);
        CHECK.due("isAired(22)", account.isAired(22), false);
        CHECK.due("isAired(0)", account.isAired(0), false);
        refused("isAired(-1)", account, NO_SUCH, x -> x.isAired(-1));
        refused("isAired(24)", account, NO_SUCH, x -> x.isAired(24));
        for (int far : FAR) {
            refused("isAired", account, NO_SUCH, x -> x.isAired(far));
        }
        Account small = station(1, 60, 0);
        refused("isAired(1)", small, NO_SUCH, x -> x.isAired(1));
    }

    private static void room() {
        CHECK.begin("promise 7");
        Account account = station(3, 120, 10);
        account.addOrder(0, 0, 0, 15, 1, 500, 0);
        account.addOrder(1, 1, 0, 30, 1, 500, 0);
        account.addOrder(2, 2, 0, 60, 1, 500, 0);
        account.place(0, 0);
        CHECK.due("room(0)", account.room(0), 105);
        account.place(1, 0);
        CHECK.due("room(0)", account.room(0), 75);
        account.place(2, 0);
        CHECK.due("room(0)", account.room(0), 15);
        CHECK.due("room(1)", account.room(1), 120);
        account.move(1, 1);
        CHECK.due("room(0) after a move", account.room(0), 45);
        CHECK.due("room(1) after a move", account.room(1), 90);
        account.air(0);
        CHECK.due("room(0) when aired", account.room(0), 45);
        account.miss(2);
        CHECK.due("room(0) after a miss", account.room(0), 105);
        account.drop(1);
        CHECK.due("room(1) after a drop", account.room(1), 120);
        account.place(1, 2);
        account.close(1);
        CHECK.due("room(2) after a close", account.room(2), 120);
        refused("room(-1)", account, NO_SUCH, x -> x.room(-1));
        refused("room(3)", account, NO_SUCH, x -> x.room(3));
        for (int far : FAR) {
            refused("room", account, NO_SUCH, x -> x.room(far));
        }
    }

    private static void rating() {
        CHECK.begin("promise 8");
        Account account = station(24, 60, 0);
        for (int at = 0; at < 24; at++) {
            for (int group = 0; group < 3; group++) {
                account.rate(at, group, 10 * at + group);
            }
        }
        for (int at = 0; at < 24; at++) {
            for (int group = 0; group < 3; group++) {
                CHECK.due("rating", account.rating(at, group), 10 * at + group);
            }
        }
        refused("rating", account, NO_SUCH, x -> x.rating(-1, 0));
        refused("rating", account, NO_SUCH, x -> x.rating(24, 0));
        refused("rating", account, NO_SUCH, x -> x.rating(24, 3));
        refused("rating", account, RANGE, x -> x.rating(0, -1));
        refused("rating", account, RANGE, x -> x.rating(0, 3));
        refused("rating", account, RANGE, x -> x.rating(23, 3));
        for (int far : FAR) {
            refused("rating", account, NO_SUCH, x -> x.rating(far, 0));
            refused("rating", account, RANGE, x -> x.rating(0, far));
        }
    }

    private static void addOrder() {
        CHECK.begin("promise 9");
        Account account = station(2, 60, 50);
        CHECK.due("addOrder", account.addOrder(0, 0, 0, 15, 0, 0, 0), 0);
        CHECK.due(
                "addOrder at its greatest",
                account.addOrder(9, 7, 2, 60, 1000000, 1000000, 100000),
                1);
        CHECK.due("addOrder", account.addOrder(3, 4, 1, 30, 7, 5, 50), 2);
        CHECK.due("whyNot(1, 0)", account.whyNot(1, 0), 3);
        account.rate(0, 2, 100000);
        CHECK.due("whyNot(1, 0)", account.whyNot(1, 0), 0);
        account.place(1, 0);
        CHECK.due("room(0)", account.room(0), 0);
        account.air(0);
        CHECK.due("bill(1)", account.bill(1), 1000000);
        CHECK.due("delivered(1)", account.delivered(1), 100000);
        CHECK.due("owed(1), open", account.owed(1), 0);
        CHECK.due("close(1)", account.close(1), 900000);
        CHECK.due("close(2)", account.close(2), 5);
    }

    private static void addOrderRanges() {
        CHECK.begin("promise 9, ranges");
        Account account = station(1, 60, 50);
        int[] least = {0, 0, 0, 15, 0, 0, 0};
        int[] most = {9, 7, 2, 60, 1000000, 1000000, 100000};
        for (int place = 0; place < 7; place++) {
            refuseOrder(account, place, least[place] - 1);
            refuseOrder(account, place, most[place] + 1);
            refuseOrder(account, place, Integer.MIN_VALUE);
            refuseOrder(account, place, Integer.MAX_VALUE);
        }
        for (int seconds : new int[] {0, 16, 29, 31, 45, 59, 90}) {
            refuseOrder(account, 3, seconds);
        }
        CHECK.due("orders()", account.orders(), 0);
    }

    private static void refuseOrder(Account account, int place, int value) {
        int[] all = {1, 1, 1, 30, 1, 1, 1};
        all[place] = value;
        refused(
                "addOrder with argument " + place + " of " + value,
                account,
                RANGE,
                x -> x.addOrder(all[0], all[1], all[2], all[3], all[4], all[5], all[6]));
    }

    private static void addOrderUpToTwenty() {
        CHECK.begin("promise 9, twenty orders");
        Account account = new Account();
        for (int order = 0; order < 20; order++) {
            CHECK.due("addOrder", order(account, 0, 0, 10), order);
        }
        refused("the 21st order", account, STATE, x -> order(x, 0, 0, 10));
        refused("a wrong 21st order", account, RANGE, x -> order(x, 10, 0, 10));
        CHECK.due("close(19)", account.close(19), 10);
    }

    private static void close() {
        CHECK.begin("promise 10");
        Account account = station(4, 60, 40);
        order(account, 0, 0, 100);
        order(account, 1, 1, 100);
        account.place(0, 0);
        account.place(1, 0);
        account.place(0, 1);
        account.place(0, 2);
        account.miss(3);
        account.air(0);
        CHECK.due("close(0)", account.close(0), 60);
        CHECK.due("aired spots stay", account.stateOf(0), SpotAccount.AIRED);
        CHECK.due("others' spots stay", account.stateOf(1), SpotAccount.AIRED);
        CHECK.due("planned spots are dropped", account.stateOf(2), SpotAccount.DROPPED);
        CHECK.due("missed spots stay", account.stateOf(3), SpotAccount.MISSED);
        CHECK.due("owed(0)", account.owed(0), 60);
        CHECK.due("owed(1)", account.owed(1), 0);
        refused("close again", account, STATE, x -> x.close(0));
        refused("place when closed", account, STATE, x -> x.place(0, 1));
        refused("fill when closed", account, STATE, x -> x.fill(0, 1));
        account.place(1, 1);
        account.place(1, 2);
        account.air(1);
        account.air(2);
        CHECK.due("close(1), more than promised", account.close(1), 0);
        refused("close(-1)", account, NO_SUCH, x -> x.close(-1));
        refused("close(2)", account, NO_SUCH, x -> x.close(2));
        for (int far : FAR) {
            refused("close", account, NO_SUCH, x -> x.close(far));
        }
        closeDropsPlannedSpots();
    }

    private static void closeDropsPlannedSpots() {
        Account account = station(2, 60, 40);
        order(account, 0, 0, 100);
        order(account, 1, 1, 100);
        account.place(0, 0);
        account.place(1, 0);
        account.close(0);
        CHECK.due("stateOf(0)", account.stateOf(0), SpotAccount.DROPPED);
        CHECK.due("stateOf(1)", account.stateOf(1), SpotAccount.PLANNED);

        Account full = withSpots(149);
        full.place(0, 1);
        CHECK.due("close when there are 150 spots", full.close(0), 1000);
        CHECK.due("stateOf(149)", full.stateOf(149), SpotAccount.DROPPED);
    }

    private static void orders() {
        CHECK.begin("promise 11");
        Account account = new Account();
        for (int count = 0; count < 20; count++) {
            CHECK.due("orders()", account.orders(), count);
            order(account, 0, 0, 10);
        }
        account.close(3);
        CHECK.due("orders()", account.orders(), 20);
    }

    private static void whyNotOneByOne() {
        CHECK.begin("promise 12");
        Account account = station(6, 60, 40);
        account.addOrder(0, 0, 0, 30, 1, 500, 40);
        order(account, 1, 0, 500);
        order(account, 0, 1, 500);
        account.addOrder(4, 4, 1, 60, 1, 500, 41);
        CHECK.due("whyNot, rating is the floor", account.whyNot(0, 0), 0);
        CHECK.due("whyNot, rating is below the floor", account.whyNot(3, 0), 3);
        account.rate(0, 1, 41);
        CHECK.due("whyNot, room is just enough", account.whyNot(3, 0), 0);
        account.place(1, 2);
        CHECK.due("whyNot, no room", account.whyNot(3, 2), 2);
        CHECK.due("whyNot, rival in it", account.whyNot(0, 2), 5);
        CHECK.due("whyNot, rival behind it", account.whyNot(0, 1), 6);
        CHECK.due("whyNot, rival before it", account.whyNot(0, 3), 6);
        CHECK.due("whyNot, rival two behind", account.whyNot(0, 0), 0);
        CHECK.due("whyNot, rival two before", account.whyNot(0, 4), 0);
        CHECK.due("whyNot, same advertiser", account.whyNot(1, 2), 4);
        CHECK.due("whyNot, own advertiser next to it", account.whyNot(1, 1), 0);
        CHECK.due("whyNot, other category", account.whyNot(2, 2), 0);
        account.place(0, 5);
        CHECK.due("whyNot, other order of the advertiser", account.whyNot(2, 5), 4);
        CHECK.due("whyNot, the last break", account.whyNot(1, 5), 5);
        CHECK.due("whyNot, next to the last break", account.whyNot(1, 4), 6);
        refused("whyNot", account, NO_SUCH, x -> x.whyNot(-1, 0));
        refused("whyNot", account, NO_SUCH, x -> x.whyNot(4, 0));
        refused("whyNot", account, NO_SUCH, x -> x.whyNot(0, -1));
        refused("whyNot", account, NO_SUCH, x -> x.whyNot(0, 6));
        for (int far : FAR) {
            refused("whyNot", account, NO_SUCH, x -> x.whyNot(far, 0));
            refused("whyNot", account, NO_SUCH, x -> x.whyNot(0, far));
        }
    }

    /** All six reasons hold at once; they are then taken away from the first on. */
    private static void whyNotFirstReason() {
        CHECK.begin("promise 12, the first reason");
        Account account = station(5, 60, 40);
        account.addOrder(0, 0, 0, 30, 1, 500, 50);
        order(account, 0, 1, 500);
        order(account, 1, 0, 500);
        order(account, 2, 0, 500);
        account.place(2, 0);
        account.place(2, 1);
        account.place(1, 1);
        account.air(1);
        CHECK.due("whyNot", account.whyNot(0, 1), 1);

        Account open = station(3, 60, 40);
        open.addOrder(0, 0, 0, 30, 1, 500, 50);
        order(open, 0, 1, 500);
        order(open, 1, 0, 500);
        open.place(2, 0);
        open.place(2, 1);
        open.place(1, 1);
        CHECK.due("whyNot", open.whyNot(0, 1), 2);
        open.drop(2);
        CHECK.due("whyNot", open.whyNot(0, 1), 3);
        open.rate(1, 0, 50);
        CHECK.due("whyNot", open.whyNot(0, 1), 5);
        open.drop(1);
        CHECK.due("whyNot", open.whyNot(0, 1), 6);
        open.drop(0);
        CHECK.due("whyNot", open.whyNot(0, 1), 0);

        Account wide = station(3, 120, 40);
        order(wide, 0, 0, 500);
        order(wide, 0, 1, 500);
        order(wide, 1, 0, 500);
        wide.place(2, 1);
        wide.place(1, 1);
        CHECK.due("whyNot", wide.whyNot(0, 1), 4);
    }

    private static void whyNotWhatCounts() {
        CHECK.begin("promise 12, planned and aired spots count");
        Account account = station(3, 60, 40);
        order(account, 0, 0, 500);
        order(account, 1, 0, 500);
        account.place(0, 0);
        account.air(0);
        CHECK.due("whyNot, aired rival next to it", account.whyNot(1, 1), 6);
        account.miss(0);
        CHECK.due("whyNot, missed rival next to it", account.whyNot(1, 1), 0);
        CHECK.due("whyNot, aired break without spots", account.whyNot(1, 0), 1);
        account.place(0, 1);
        account.drop(1);
        CHECK.due("whyNot, dropped rival in it", account.whyNot(1, 1), 0);
        account.place(0, 1);
        account.miss(2);
        CHECK.due("whyNot, missed spot of the advertiser", account.whyNot(0, 1), 0);
        account.close(0);
        CHECK.due("whyNot of a closed order", account.whyNot(0, 1), 0);
        account.place(1, 1);
        account.rate(1, 0, 0);
        CHECK.due("what is there stays", account.stateOf(3), SpotAccount.PLANNED);
    }

    private static void place() {
        CHECK.begin("promise 13");
        Account account = station(3, 60, 40);
        account.addOrder(0, 0, 0, 30, 100, 500, 10);
        order(account, 1, 0, 500);
        CHECK.due("place(0, 1)", account.place(0, 1), 0);
        CHECK.due("stateOf(0)", account.stateOf(0), SpotAccount.PLANNED);
        CHECK.due("breakOf(0)", account.breakOf(0), 1);
        CHECK.due("room(1)", account.room(1), 30);
        CHECK.due("place(0, 2)", account.place(0, 2), 1);
        refused("place, reason 4", account, STATE, x -> x.place(0, 1));
        refused("place, reason 5", account, STATE, x -> x.place(1, 1));
        refused("place, reason 6", account, STATE, x -> x.place(1, 0));
        account.air(1);
        CHECK.due("a paid spot is billed", account.bill(0), 100);
        account.air(0);
        refused("place, reason 1", account, STATE, x -> x.place(0, 0));
        account.addBreak(15);
        account.addBreak(60);
        account.rate(4, 0, 9);
        refused("place, reason 2", account, STATE, x -> x.place(0, 3));
        refused("place, reason 3", account, STATE, x -> x.place(0, 4));
        account.rate(4, 0, 10);
        CHECK.due("place(0, 4)", account.place(0, 4), 2);
        account.drop(2);
        account.close(0);
        refused("place when closed", account, STATE, x -> x.place(0, 4));
        refused("place", account, NO_SUCH, x -> x.place(-1, 0));
        refused("place", account, NO_SUCH, x -> x.place(2, 0));
        refused("place", account, NO_SUCH, x -> x.place(0, -1));
        refused("place", account, NO_SUCH, x -> x.place(0, 5));
        for (int far : FAR) {
            refused("place", account, NO_SUCH, x -> x.place(far, 4));
            refused("place", account, NO_SUCH, x -> x.place(1, far));
        }
        Account met = station(1, 60, 40);
        order(met, 0, 0, 10);
        met.place(0, 0);
        met.air(0);
        met.miss(0);
        met.addBreak(60);
        CHECK.due("place above the promise", met.place(0, 1), 1);
    }

    private static Account withSpots(int count) {
        Account account = station(2, 60, 40);
        order(account, 0, 0, 1000);
        for (int spot = 0; spot < count; spot++) {
            account.place(0, 0);
            account.drop(spot);
        }
        return account;
    }

    private static void placeUpToTheLimit() {
        CHECK.begin("promise 13, 150 spots");
        Account account = withSpots(149);
        CHECK.due("the 150th spot", account.place(0, 0), 149);
        CHECK.due("whyNot(0, 1)", account.whyNot(0, 1), 0);
        refused("the 151st spot", account, STATE, x -> x.place(0, 1));
        refused("no such break", account, NO_SUCH, x -> x.place(0, 2));
        CHECK.due("move when there are 150 spots", account.move(149, 1), 0);
    }

    private static void give() {
        CHECK.begin("promise 14");
        Account account = station(5, 60, 40);
        account.addOrder(0, 0, 0, 30, 100, 60, 10);
        order(account, 1, 0, 500);
        refused("give when open", account, STATE, x -> x.give(0, 0));
        account.place(1, 4);
        account.close(0);
        CHECK.due("give(0, 1)", account.give(0, 1), 1);
        CHECK.due("rest(0)", account.rest(0), 20);
        CHECK.due("stateOf(1)", account.stateOf(1), SpotAccount.PLANNED);
        CHECK.due("breakOf(1)", account.breakOf(1), 1);
        CHECK.due("room(1)", account.room(1), 30);
        refused("give, reason 4", account, STATE, x -> x.give(0, 1));
        refused("give, reason 5", account, STATE, x -> x.give(0, 4));
        refused("give, reason 6", account, STATE, x -> x.give(0, 3));
        account.rate(2, 0, 9);
        refused("give, reason 3", account, STATE, x -> x.give(0, 2));
        account.air(2);
        refused("give, reason 1", account, STATE, x -> x.give(0, 2));
        CHECK.due("give(0, 0)", account.give(0, 0), 2);
        CHECK.due("rest(0)", account.rest(0), 0);
        account.drop(0);
        account.air(0);
        account.air(1);
        CHECK.due("a free spot is not billed", account.bill(0), 0);
        CHECK.due("a free spot delivers", account.delivered(0), 80);
        refused("give when the rest is 0", account, STATE, x -> x.give(0, 4));
        account.miss(1);
        account.addBreak(15);
        account.rate(5, 0, 40);
        refused("give, reason 2", account, STATE, x -> x.give(0, 5));
        CHECK.due("give after a miss", account.give(0, 4), 3);
        refused("give", account, NO_SUCH, x -> x.give(-1, 0));
        refused("give", account, NO_SUCH, x -> x.give(2, 0));
        refused("give", account, NO_SUCH, x -> x.give(0, -1));
        refused("give", account, NO_SUCH, x -> x.give(0, 6));
        for (int far : FAR) {
            refused("give", account, NO_SUCH, x -> x.give(far, 4));
            refused("give", account, NO_SUCH, x -> x.give(0, far));
        }
    }

    private static void giveUpToTheLimit() {
        CHECK.begin("promise 14, 150 spots");
        Account account = withSpots(149);
        account.close(0);
        CHECK.due("the 150th spot", account.give(0, 0), 149);
        CHECK.due("rest(0)", account.rest(0), 960);
        CHECK.due("whyNot(0, 1)", account.whyNot(0, 1), 0);
        refused("the 151st spot", account, STATE, x -> x.give(0, 1));

        Account one = station(1, 60, 40);
        order(one, 0, 0, 1);
        one.close(0);
        CHECK.due("give for a rest of 1", one.give(0, 0), 0);
    }

    private static void fill() {
        CHECK.begin("promise 15");
        Account account = station(6, 60, 40);
        order(account, 0, 0, 121);
        CHECK.due("fill(0, 1)", account.fill(0, 1), 1);
        CHECK.due("breakOf(0)", account.breakOf(0), 0);
        CHECK.due("stateOf(0)", account.stateOf(0), SpotAccount.PLANNED);
        account.air(0);
        CHECK.due("fill counts aired and planned ones", account.fill(0, 24), 3);
        CHECK.due("spots()", account.spots(), 4);
        CHECK.due("breakOf(3)", account.breakOf(3), 3);
        CHECK.due("fill when there is enough", account.fill(0, 24), 0);
        account.drop(3);
        CHECK.due("fill does not count dropped ones", account.fill(0, 24), 1);
        account.miss(4);
        CHECK.due("fill does not count missed ones", account.fill(0, 24), 1);
        account.miss(0);
        CHECK.due("fill does not count missed aired ones", account.fill(0, 24), 1);
        account.air(1);
        CHECK.due("paid spots are billed", account.bill(0), 100);
        refused("fill(0, 0)", account, RANGE, x -> x.fill(0, 0));
        refused("fill(0, 25)", account, RANGE, x -> x.fill(0, 25));
        refused("fill(-1, 1)", account, NO_SUCH, x -> x.fill(-1, 1));
        refused("fill(1, 0)", account, NO_SUCH, x -> x.fill(1, 0));
        account.close(0);
        refused("fill when closed", account, STATE, x -> x.fill(0, 1));
        refused("fill when closed", account, RANGE, x -> x.fill(0, 0));
        refused("fill when closed", account, NO_SUCH, x -> x.fill(1, 1));
        for (int far : FAR) {
            refused("fill", account, NO_SUCH, x -> x.fill(far, 1));
            refused("fill", account, RANGE, x -> x.fill(0, far));
        }
    }

    private static void fillChoosesTheGreatest() {
        CHECK.begin("promise 15, which break");
        Account account = station(8, 60, 0);
        int[] ratings = {5, 30, 7, 30, 50, 60, 0, 70};
        for (int at = 0; at < 8; at++) {
            account.rate(at, 1, ratings[at]);
        }
        account.addOrder(0, 0, 1, 30, 1, 1000, 0);
        order(account, 1, 0, 1000);
        account.air(5);
        account.place(1, 7);
        CHECK.due("fill(0, 24)", account.fill(0, 24), 5);
        int[] due = {7, 4, 1, 3, 2, 0};
        for (int spot = 0; spot < 6; spot++) {
            CHECK.due("breakOf", account.breakOf(spot), due[spot]);
        }
        account.drop(0);
        CHECK.due("fill(0, 24) once more", account.fill(0, 24), 2);
        CHECK.due("breakOf(6)", account.breakOf(6), 7);
        CHECK.due("breakOf(7), rated 0", account.breakOf(7), 6);
    }

    private static void fillEnds() {
        CHECK.begin("promise 15, where it ends");
        Account exact = station(5, 60, 40);
        order(exact, 0, 0, 80);
        CHECK.due("fill just up to the promise", exact.fill(0, 24), 2);

        Account zero = station(3, 60, 40);
        order(zero, 0, 0, 0);
        CHECK.due("fill with nothing promised", zero.fill(0, 24), 0);

        Account none = new Account();
        order(none, 0, 0, 10);
        CHECK.due("fill without breaks", none.fill(0, 24), 0);

        Account all = station(24, 60, 1);
        order(all, 0, 0, 1000);
        CHECK.due("fill(0, 23)", all.fill(0, 23), 23);
        CHECK.due("fill(0, 24)", all.fill(0, 24), 1);

        Account most = station(24, 60, 1);
        order(most, 0, 0, 1000);
        CHECK.due("fill(0, 24)", most.fill(0, 24), 24);

        Account full = withSpots(149);
        CHECK.due("fill up to 150 spots", full.fill(0, 24), 1);
        CHECK.due("spots()", full.spots(), 150);
        CHECK.due("fill when there are 150 spots", full.fill(0, 24), 0);
    }

    private static void move() {
        CHECK.begin("promise 16");
        Account account = station(6, 60, 40);
        account.addOrder(0, 0, 0, 60, 100, 500, 10);
        order(account, 1, 0, 500);
        account.place(0, 0);
        account.place(1, 5);
        CHECK.due("move(0, 1), next to itself", account.move(0, 1), 0);
        CHECK.due("breakOf(0)", account.breakOf(0), 1);
        CHECK.due("stateOf(0)", account.stateOf(0), SpotAccount.PLANNED);
        CHECK.due("room(0)", account.room(0), 60);
        CHECK.due("room(1)", account.room(1), 0);
        CHECK.due("move(0, 3)", account.move(0, 3), 1);
        CHECK.due("move where it is", account.move(0, 3), 3);
        account.rate(3, 0, 9);
        CHECK.due("move where it is, below the floor", account.move(0, 3), 3);
        CHECK.due("move(0, 2)", account.move(0, 2), 3);
        account.rate(3, 0, 40);
        CHECK.due("spots()", account.spots(), 2);
        account.air(2);
        CHECK.due("the spot is billed yet", account.bill(0), 100);

        Account free = station(3, 60, 40);
        order(free, 0, 0, 100);
        free.close(0);
        free.give(0, 0);
        free.rate(1, 0, 70);
        CHECK.due("move of a free spot of a closed order", free.move(0, 1), 0);
        CHECK.due("rest(0)", free.rest(0), 30);
        free.air(1);
        CHECK.due("it is free yet", free.bill(0), 0);
    }

    private static void moveRefused() {
        CHECK.begin("promise 16, refused");
        Account account = station(7, 60, 40);
        account.addOrder(0, 0, 0, 30, 100, 500, 10);
        order(account, 1, 0, 500);
        order(account, 0, 1, 500);
        account.addOrder(5, 5, 0, 60, 100, 500, 0);
        account.place(0, 0);
        account.place(1, 4);
        account.place(2, 2);
        account.place(3, 6);
        refused("move, reason 2", account, STATE, x -> x.move(0, 6));
        refused("move, reason 4", account, STATE, x -> x.move(0, 2));
        refused("move, reason 5", account, STATE, x -> x.move(0, 4));
        refused("move, reason 6", account, STATE, x -> x.move(0, 3));
        account.rate(1, 0, 9);
        refused("move, reason 3", account, STATE, x -> x.move(0, 1));
        account.rate(1, 0, 10);
        account.air(1);
        refused("move, reason 1", account, STATE, x -> x.move(0, 1));
        refused("move", account, NO_SUCH, x -> x.move(-1, 0));
        refused("move", account, NO_SUCH, x -> x.move(4, 0));
        refused("move", account, NO_SUCH, x -> x.move(0, -1));
        refused("move", account, NO_SUCH, x -> x.move(0, 7));
        account.air(0);
        refused("move of an aired one", account, STATE, x -> x.move(0, 5));
        refused("move of an aired one", account, STATE, x -> x.move(0, 0));
        refused("move of an aired one", account, NO_SUCH, x -> x.move(0, 7));
        account.miss(1);
        refused("move of a missed one", account, STATE, x -> x.move(1, 4));
        refused("move of a missed one", account, STATE, x -> x.move(1, 5));
        account.drop(2);
        refused("move of a dropped one", account, STATE, x -> x.move(2, 2));
        refused("move of a dropped one", account, STATE, x -> x.move(2, 3));
        for (int far : FAR) {
            refused("move", account, NO_SUCH, x -> x.move(far, 5));
            refused("move", account, NO_SUCH, x -> x.move(3, far));
        }
    }

    private static void miss() {
        CHECK.begin("promise 17");
        Account account = station(3, 60, 40);
        order(account, 0, 0, 500);
        account.place(0, 0);
        account.place(0, 1);
        account.place(0, 2);
        account.air(0);
        CHECK.due("miss of an aired one", account.miss(0), true);
        CHECK.due("stateOf(0)", account.stateOf(0), SpotAccount.MISSED);
        CHECK.due("miss of a planned one", account.miss(1), false);
        CHECK.due("stateOf(1)", account.stateOf(1), SpotAccount.MISSED);
        CHECK.due("stateOf(2)", account.stateOf(2), SpotAccount.PLANNED);
        CHECK.due("breakOf(1)", account.breakOf(1), 1);
        CHECK.due("delivered(0)", account.delivered(0), 0);
        CHECK.due("bill(0)", account.bill(0), 0);
        refused("miss of a missed one", account, STATE, x -> x.miss(0));
        refused("miss of a missed one", account, STATE, x -> x.miss(1));
        account.drop(2);
        refused("miss of a dropped one", account, STATE, x -> x.miss(2));
        refused("miss(-1)", account, NO_SUCH, x -> x.miss(-1));
        refused("miss(3)", account, NO_SUCH, x -> x.miss(3));
        for (int far : FAR) {
            refused("miss", account, NO_SUCH, x -> x.miss(far));
        }
    }

    private static void drop() {
        CHECK.begin("promise 18");
        Account account = station(4, 60, 40);
        order(account, 0, 0, 500);
        account.place(0, 0);
        account.place(0, 1);
        account.place(0, 2);
        account.place(0, 3);
        account.drop(1);
        CHECK.due("stateOf(1)", account.stateOf(1), SpotAccount.DROPPED);
        CHECK.due("stateOf(0)", account.stateOf(0), SpotAccount.PLANNED);
        CHECK.due("breakOf(1)", account.breakOf(1), 1);
        CHECK.due("room(1)", account.room(1), 60);
        refused("drop of a dropped one", account, STATE, x -> x.drop(1));
        account.air(0);
        refused("drop of an aired one", account, STATE, x -> x.drop(0));
        account.miss(2);
        refused("drop of a missed one", account, STATE, x -> x.drop(2));
        refused("drop(-1)", account, NO_SUCH, x -> x.drop(-1));
        refused("drop(4)", account, NO_SUCH, x -> x.drop(4));
        for (int far : FAR) {
            refused("drop", account, NO_SUCH, x -> x.drop(far));
        }
    }

    private static void spots() {
        CHECK.begin("promise 19");
        Account account = station(4, 60, 40);
        order(account, 0, 0, 500);
        account.place(0, 0);
        CHECK.due("spots()", account.spots(), 1);
        account.place(0, 1);
        CHECK.due("spots()", account.spots(), 2);
        account.air(0);
        account.miss(0);
        account.drop(1);
        CHECK.due("spots() in whichever state", account.spots(), 2);
        account.close(0);
        account.give(0, 2);
        CHECK.due("spots() with a free one", account.spots(), 3);
        CHECK.due("spots() at most", withSpots(150).spots(), 150);
    }

    private static void stateOf() {
        CHECK.begin("promise 20");
        Account account = station(4, 60, 40);
        order(account, 0, 0, 500);
        account.place(0, 0);
        account.place(0, 1);
        account.place(0, 2);
        account.place(0, 3);
        account.air(1);
        account.miss(2);
        account.drop(3);
        CHECK.due("stateOf(0)", account.stateOf(0), 0);
        CHECK.due("stateOf(1)", account.stateOf(1), 1);
        CHECK.due("stateOf(2)", account.stateOf(2), 2);
        CHECK.due("stateOf(3)", account.stateOf(3), 3);
        refused("stateOf(-1)", account, NO_SUCH, x -> x.stateOf(-1));
        refused("stateOf(4)", account, NO_SUCH, x -> x.stateOf(4));
        for (int far : FAR) {
            refused("stateOf", account, NO_SUCH, x -> x.stateOf(far));
        }
        Account full = withSpots(150);
        CHECK.due("stateOf(149)", full.stateOf(149), 3);
        refused("stateOf(150)", full, NO_SUCH, x -> x.stateOf(150));
    }

    private static void breakOf() {
        CHECK.begin("promise 21");
        Account account = station(4, 60, 40);
        order(account, 0, 0, 500);
        account.place(0, 3);
        account.place(0, 1);
        account.place(0, 0);
        account.move(2, 2);
        account.air(3);
        account.drop(1);
        CHECK.due("breakOf(0)", account.breakOf(0), 3);
        CHECK.due("breakOf(1)", account.breakOf(1), 1);
        CHECK.due("breakOf(2)", account.breakOf(2), 2);
        refused("breakOf(-1)", account, NO_SUCH, x -> x.breakOf(-1));
        refused("breakOf(3)", account, NO_SUCH, x -> x.breakOf(3));
        for (int far : FAR) {
            refused("breakOf", account, NO_SUCH, x -> x.breakOf(far));
        }
        Account full = withSpots(150);
        refused("breakOf(150)", full, NO_SUCH, x -> x.breakOf(150));
    }

    private static void delivered() {
        CHECK.begin("promise 22");
        Account account = station(5, 60, 0);
        account.addOrder(0, 0, 2, 30, 100, 500, 0);
        account.addOrder(1, 1, 1, 30, 100, 500, 0);
        for (int at = 0; at < 5; at++) {
            account.rate(at, 1, 100 + at);
            account.rate(at, 2, 10 + at);
            account.place(0, at);
        }
        account.place(1, 1);
        account.air(1);
        account.air(2);
        account.air(3);
        account.miss(3);
        CHECK.due("delivered(0)", account.delivered(0), 23);
        CHECK.due("delivered(1)", account.delivered(1), 101);
        account.rate(1, 2, 90);
        CHECK.due("delivered(0) after a revision", account.delivered(0), 102);
        account.close(0);
        account.give(0, 4);
        CHECK.due("delivered(0), free one planned", account.delivered(0), 102);
        account.air(4);
        CHECK.due("delivered(0), free one aired", account.delivered(0), 116);
        refused("delivered(-1)", account, NO_SUCH, x -> x.delivered(-1));
        refused("delivered(2)", account, NO_SUCH, x -> x.delivered(2));
        for (int far : FAR) {
            refused("delivered", account, NO_SUCH, x -> x.delivered(far));
        }
    }

    private static void owed() {
        CHECK.begin("promise 23");
        Account account = station(4, 60, 40);
        order(account, 0, 0, 100);
        account.place(0, 0);
        account.air(0);
        CHECK.due("owed(0), open", account.owed(0), 0);
        account.close(0);
        CHECK.due("owed(0), closed", account.owed(0), 60);
        account.give(0, 1);
        CHECK.due("owed(0), free one planned", account.owed(0), 60);
        account.air(1);
        CHECK.due("owed(0), free one aired", account.owed(0), 20);
        account.rate(0, 0, 60);
        CHECK.due("owed(0), just met", account.owed(0), 0);
        account.rate(0, 0, 61);
        CHECK.due("owed(0), more than met", account.owed(0), 0);
        account.rate(0, 0, 59);
        CHECK.due("owed(0), one less", account.owed(0), 1);
        account.miss(0);
        CHECK.due("owed(0) after a miss", account.owed(0), 60);
        refused("owed(-1)", account, NO_SUCH, x -> x.owed(-1));
        refused("owed(1)", account, NO_SUCH, x -> x.owed(1));
        for (int far : FAR) {
            refused("owed", account, NO_SUCH, x -> x.owed(far));
        }
    }

    private static void rest() {
        CHECK.begin("promise 24");
        Account account = station(4, 60, 40);
        order(account, 0, 0, 100);
        order(account, 1, 1, 100);
        account.place(0, 0);
        account.place(0, 3);
        account.air(0);
        CHECK.due("rest(0), open", account.rest(0), 0);
        account.close(0);
        account.close(1);
        CHECK.due("rest(0), closed", account.rest(0), 60);
        account.give(0, 1);
        CHECK.due("rest(0), a free one planned", account.rest(0), 20);
        CHECK.due("rest(1)", account.rest(1), 100);
        account.rate(1, 0, 60);
        CHECK.due("rest(0), just enough planned", account.rest(0), 0);
        account.rate(1, 0, 61);
        CHECK.due("rest(0), more than enough planned", account.rest(0), 0);
        account.rate(1, 0, 59);
        CHECK.due("rest(0), one less", account.rest(0), 1);
        account.air(1);
        CHECK.due("rest(0), it is aired", account.rest(0), 1);
        account.miss(2);
        CHECK.due("rest(0), it is missed", account.rest(0), 60);
        account.give(0, 2);
        account.drop(3);
        CHECK.due("rest(0), another is dropped", account.rest(0), 60);
        refused("rest(-1)", account, NO_SUCH, x -> x.rest(-1));
        refused("rest(2)", account, NO_SUCH, x -> x.rest(2));
        for (int far : FAR) {
            refused("rest", account, NO_SUCH, x -> x.rest(far));
        }
    }

    private static void bill() {
        CHECK.begin("promise 25");
        Account account = station(5, 60, 40);
        account.addOrder(0, 0, 0, 15, 1000000, 500, 0);
        account.addOrder(1, 1, 0, 15, 7, 500, 0);
        for (int at = 0; at < 4; at++) {
            account.place(0, at);
        }
        account.place(1, 0);
        CHECK.due("bill(0), planned ones", account.bill(0), 0);
        account.air(0);
        account.air(1);
        account.air(2);
        CHECK.due("bill(0), aired ones", account.bill(0), 3000000);
        CHECK.due("bill(1)", account.bill(1), 7);
        account.miss(1);
        CHECK.due("bill(0) after a miss", account.bill(0), 2000000);
        account.rate(0, 0, 0);
        CHECK.due("bill(0) after a revision", account.bill(0), 2000000);
        account.close(0);
        account.give(0, 4);
        account.air(3);
        account.air(4);
        CHECK.due("bill(0), a dropped and a free one", account.bill(0), 2000000);
        refused("bill(-1)", account, NO_SUCH, x -> x.bill(-1));
        refused("bill(2)", account, NO_SUCH, x -> x.bill(2));
        for (int far : FAR) {
            refused("bill", account, NO_SUCH, x -> x.bill(far));
        }
    }

    private static void billTo() {
        CHECK.begin("promise 26");
        Account account = station(6, 60, 40);
        account.addOrder(9, 0, 0, 15, 10, 500, 0);
        account.addOrder(0, 1, 0, 15, 300, 500, 0);
        account.addOrder(9, 2, 0, 15, 5000, 500, 0);
        account.place(0, 0);
        account.place(0, 1);
        account.place(1, 0);
        account.place(2, 2);
        account.place(2, 3);
        for (int at = 0; at < 3; at++) {
            account.air(at);
        }
        account.close(0);
        CHECK.due("billTo(9)", account.billTo(9), 5020);
        CHECK.due("billTo(0)", account.billTo(0), 300);
        CHECK.due("billTo(5)", account.billTo(5), 0);
        refused("billTo(-1)", account, RANGE, x -> x.billTo(-1));
        refused("billTo(10)", account, RANGE, x -> x.billTo(10));
        for (int far : FAR) {
            refused("billTo", account, RANGE, x -> x.billTo(far));
        }
    }

    private static void mostOwed() {
        CHECK.begin("promise 27");
        Account account = station(3, 120, 40);
        order(account, 0, 0, 0);
        order(account, 1, 1, 50);
        order(account, 2, 2, 70);
        order(account, 3, 3, 70);
        order(account, 4, 4, 90);
        CHECK.due("mostOwed(), all open", account.mostOwed(), SpotAccount.NONE);
        account.close(0);
        CHECK.due("mostOwed(), nothing promised", account.mostOwed(), SpotAccount.NONE);
        account.close(1);
        CHECK.due("mostOwed()", account.mostOwed(), 1);
        account.close(3);
        CHECK.due("mostOwed()", account.mostOwed(), 3);
        account.close(2);
        CHECK.due("mostOwed(), the lowest of several", account.mostOwed(), 2);
        account.close(4);
        CHECK.due("mostOwed()", account.mostOwed(), 4);
        account.give(4, 0);
        CHECK.due("mostOwed() goes by the rest", account.mostOwed(), 2);
        account.give(2, 0);
        account.give(3, 0);
        CHECK.due("mostOwed(), the lowest of several", account.mostOwed(), 1);
        account.rate(0, 0, 100);
        account.give(1, 0);
        CHECK.due("mostOwed(), no rest", account.mostOwed(), SpotAccount.NONE);

        Account one = station(1, 60, 40);
        order(one, 0, 0, 1);
        one.close(0);
        CHECK.due("mostOwed() with a rest of 1", one.mostOwed(), 0);
    }
}
