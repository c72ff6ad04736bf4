import java.util.function.ObjIntConsumer;
import java.util.function.Supplier;

/**
 * The bounds that the document names: of each argument just inside and just outside of its range
 * and at the ends of an int; nothing there, as many as there can be, and one more. Each part is
 * named by the sentence that it is for.
 */
public final class BoundsTest {
    private static final Class<IndexOutOfBoundsException> NO_SUCH = IndexOutOfBoundsException.class;
    private static final Class<IllegalArgumentException> RANGE = IllegalArgumentException.class;
    private static final Class<IllegalStateException> STATE = IllegalStateException.class;

    private static final int LEAST_INT = Integer.MIN_VALUE;
    private static final int GREATEST_INT = Integer.MAX_VALUE;

    /** Numbers that come back into a small range if something multiplies or shortens them. */
    private static final int[] WRAPPING = {
        256, 65536, 1 << 30, 715827883, 1431655766, -1431655765, -256, -65536, -(1 << 30),
    };

    private static final Check CHECK = new Check();
    private static final Twins TWINS = new Twins(CHECK);

    public static void main(String[] args) {
        allOf512Calls();
        nothingAtFirst();
        noBreak();
        noOrder();
        noSpot();
        atMost24Breaks();
        atMost20Orders();
        atMost150SpotsByPlace();
        atMost150SpotsByGive();
        atMost150SpotsByFill();
        atMost150SpotsInWhicheverState();
        secondsOfBreak();
        groupOfRate();
        ratingOfRate();
        groupOfRating();
        advertiserOfOrder();
        categoryOfOrder();
        groupOfOrder();
        secondsOfOrder();
        priceOfOrder();
        promiseOfOrder();
        floorOfOrder();
        mostOfFill();
        advertiserOfBillTo();
        numbersOfBreaks();
        numbersOfOrders();
        numbersOfSpots();
        greatestSums();
        CHECK.end();
    }

    /** The numbers just below and just above the range, the ends of an int, and wrapping ones. */
    private static int[] outside(int lowest, int highest) {
        int[] near = {
            LEAST_INT, LEAST_INT + 1, lowest - 1, highest + 1, GREATEST_INT - 1, GREATEST_INT,
        };
        int[] all = new int[near.length + 2 * WRAPPING.length];
        int count = 0;
        for (int value : near) {
            all[count++] = value;
        }
        for (int value : WRAPPING) {
            for (int moved : new int[] {value, value + lowest}) {
                boolean in = moved >= lowest && moved <= highest;
                all[count++] = in ? highest + 1 : moved;
            }
        }
        return all;
    }

    private static void outOfRange(
            String what,
            Supplier<Account> scene,
            int lowest,
            int highest,
            ObjIntConsumer<Account> call) {
        for (int value : outside(lowest, highest)) {
            TWINS.refused(what + " of " + value, scene, RANGE, x -> call.accept(x, value));
        }
    }

    /** Numbers below count are there; those from it on, and those below 0, are not. */
    private static void noSuch(
            String what,
            Supplier<Account> scene,
            int count,
            ObjIntConsumer<Account> call) {
        for (int number : outside(0, count - 1)) {
            TWINS.refused(what + " of " + number, scene, NO_SUCH, x -> call.accept(x, number));
        }
    }

    private static void noSuchBreak(Supplier<Account> scene, int count, int order, int spot) {
        noSuch("rate", scene, count, (x, at) -> x.rate(at, 0, 5));
        noSuch("air", scene, count, (x, at) -> x.air(at));
        noSuch("isAired", scene, count, (x, at) -> x.isAired(at));
        noSuch("room", scene, count, (x, at) -> x.room(at));
        noSuch("rating", scene, count, (x, at) -> x.rating(at, 0));
        noSuch("whyNot, break", scene, count, (x, at) -> x.whyNot(order, at));
        noSuch("place, break", scene, count, (x, at) -> x.place(order, at));
        noSuch("give, break", scene, count, (x, at) -> x.give(order, at));
        noSuch("move, break", scene, count, (x, at) -> x.move(spot, at));
    }

    private static void noSuchOrder(Supplier<Account> scene, int count, int at) {
        noSuch("close", scene, count, (x, order) -> x.close(order));
        noSuch("whyNot, order", scene, count, (x, order) -> x.whyNot(order, at));
        noSuch("place, order", scene, count, (x, order) -> x.place(order, at));
        noSuch("give, order", scene, count, (x, order) -> x.give(order, at));
        noSuch("fill", scene, count, (x, order) -> x.fill(order, 1));
        noSuch("delivered", scene, count, (x, order) -> x.delivered(order));
        noSuch("owed", scene, count, (x, order) -> x.owed(order));
        noSuch("rest", scene, count, (x, order) -> x.rest(order));
        noSuch("bill", scene, count, (x, order) -> x.bill(order));
    }

    private static void noSuchSpot(Supplier<Account> scene, int count, int at) {
        noSuch("move, spot", scene, count, (x, spot) -> x.move(spot, at));
        noSuch("miss", scene, count, (x, spot) -> x.miss(spot));
        noSuch("drop", scene, count, (x, spot) -> x.drop(spot));
        noSuch("stateOf", scene, count, (x, spot) -> x.stateOf(spot));
        noSuch("breakOf", scene, count, (x, spot) -> x.breakOf(spot));
    }

    // ---- as many calls as there can be

    private static void allOf512Calls() {
        CHECK.begin("What it is: An object is used for at most 512 calls [the last is answered]");
        Account rated = Scenes.breaks(1, 60);
        for (int call = 1; call < Account.MOST_CALLS; call++) {
            CHECK.due("rate, the " + (call + 1) + "th call", rated.rate(0, 1, call), call - 1);
        }
        Account refusing = new Account();
        for (int call = 0; call < Account.MOST_CALLS - 1; call++) {
            CHECK.due("addBreak(14)", Check.answer(() -> refusing.addBreak(14)),
                    "IllegalArgumentException");
        }
        CHECK.due("addBreak(15), the 512th call", refusing.addBreak(15), 0);
        Account filled = Scenes.spots(149);
        for (int call = filled.calls(); call < Account.MOST_CALLS - 1; call++) {
            CHECK.due("whyNot", filled.whyNot(Scenes.FULL_OPEN_ORDER, call % 24), 0);
        }
        CHECK.due("place, the 512th call", filled.place(Scenes.FULL_OPEN_ORDER, 23), 149);
    }

    // ---- nothing there

    private static void nothingAtFirst() {
        CHECK.begin("Promise 1: Creates an account without breaks and orders.");
        Account account = new Account();
        CHECK.due("breaks()", account.breaks(), 0);
        CHECK.due("orders()", account.orders(), 0);
        CHECK.due("spots()", account.spots(), 0);
        CHECK.due("mostOwed()", account.mostOwed(), -1);
        for (int advertiser = 0; advertiser < 10; advertiser++) {
            CHECK.due("billTo", account.billTo(advertiser), 0);
        }
        noSuchBreak(Account::new, 0, 0, 0);
        noSuchOrder(Account::new, 0, 0);
        noSuchSpot(Account::new, 0, 0);
    }

    private static void noBreak() {
        CHECK.begin("Terms: IndexOutOfBoundsException: there is no such break [no break at all]");
        Supplier<Account> scene = () -> Scenes.orders(20);
        noSuchBreak(scene, 0, 19, 0);
        Account account = scene.get();
        CHECK.due("fill without a break", account.fill(19, 24), 0);
        CHECK.due("close without a break", account.close(19), 19);
        CHECK.due("rest(19)", account.rest(19), 19);
        CHECK.due("mostOwed()", account.mostOwed(), 19);
    }

    private static void noOrder() {
        CHECK.begin("Terms: IndexOutOfBoundsException: there is no such .. order [none at all]");
        Supplier<Account> scene = () -> Scenes.rated(24, 600, 50);
        noSuchOrder(scene, 0, 23);
        Account account = scene.get();
        CHECK.due("air without a spot", account.air(23), 0);
        CHECK.due("mostOwed()", account.mostOwed(), -1);
        CHECK.due("billTo(0)", account.billTo(0), 0);
    }

    private static void noSpot() {
        CHECK.begin("Terms: IndexOutOfBoundsException: there is no such .. spot [none at all]");
        Supplier<Account> scene = () -> Scenes.spots(0);
        noSuchSpot(scene, 0, 0);
        Account account = scene.get();
        CHECK.due("room without a spot", account.room(0), 600);
        CHECK.due("delivered without a spot", account.delivered(8), 0);
        CHECK.due("bill without a spot", account.bill(8), 0);
        CHECK.due("owed without a spot", account.owed(8), 500);
        CHECK.due("rest without a spot", account.rest(8), 500);
    }

    // ---- as many as there can be

    private static void atMost24Breaks() {
        CHECK.begin("Terms: at most 24 breaks, numbered from 0 in the order in which .. added");
        Account account = new Account();
        for (int at = 0; at < 24; at++) {
            CHECK.due("addBreak", account.addBreak(60 + at), at);
            CHECK.due("breaks()", account.breaks(), at + 1);
        }
        for (int at = 0; at < 24; at++) {
            CHECK.due("room", account.room(at), 60 + at);
        }
        CHECK.begin("Promise 2: Throws IllegalStateException if there are 24 breaks");
        TWINS.refused("one more", () -> Scenes.breaks(24, 15), STATE, x -> x.addBreak(15));
        TWINS.refused("one more", () -> Scenes.breaks(24, 15), STATE, x -> x.addBreak(600));
        TWINS.refused("one more when all are aired", BoundsTest::airedBreaks, STATE,
                x -> x.addBreak(60));
        CHECK.due("the 24th", Scenes.breaks(23, 15).addBreak(600), 23);
    }

    private static Account airedBreaks() {
        Account account = Scenes.breaks(24, 60);
        for (int at = 0; at < 24; at++) {
            account.air(at);
        }
        return account;
    }

    private static void atMost20Orders() {
        CHECK.begin("Terms: There are at most 20 orders, numbered from 0.");
        Account account = new Account();
        for (int order = 0; order < 20; order++) {
            CHECK.due("addOrder", Scenes.order(account, 0, 0, 100 + order), order);
            CHECK.due("orders()", account.orders(), order + 1);
        }
        for (int order = 0; order < 20; order++) {
            CHECK.due("close", account.close(order), 100 + order);
        }
        CHECK.begin("Promise 9: Throws IllegalStateException if there are 20 orders");
        Supplier<Account> full = () -> Scenes.orders(20);
        TWINS.refused("one more", full, STATE, x -> Scenes.order(x, 9, 7, 5));
        TWINS.refused("one more", full, STATE,
                x -> x.addOrder(9, 7, 2, 60, 1000000, 1000000, 100000));
        TWINS.refused("one more when all are closed", BoundsTest::closedOrders, STATE,
                x -> Scenes.order(x, 0, 0, 0));
        CHECK.due("the 20th", Scenes.order(Scenes.orders(19), 0, 0, 0), 19);
    }

    private static Account closedOrders() {
        Account account = Scenes.orders(20);
        for (int order = 0; order < 20; order++) {
            account.close(order);
        }
        return account;
    }

    private static void atMost150SpotsByPlace() {
        CHECK.begin("Promise 13: Throws IllegalStateException if .. there are 150 spots");
        int order = Scenes.FULL_OPEN_ORDER;
        Account account = Scenes.spots(149);
        CHECK.due("spots()", account.spots(), 149);
        CHECK.due("the 150th", account.place(order, 0), 149);
        CHECK.due("spots()", account.spots(), 150);
        CHECK.due("stateOf(149)", account.stateOf(149), SpotAccount.PLANNED);
        CHECK.due("breakOf(149)", account.breakOf(149), 0);
        CHECK.due("it could go there", Scenes.spots(150).whyNot(order, 0), 0);
        TWINS.refused("one more", () -> Scenes.spots(150), STATE, x -> x.place(order, 0));
    }

    private static void atMost150SpotsByGive() {
        CHECK.begin("Promise 14: Throws IllegalStateException if .. there are 150 spots");
        int order = Scenes.FULL_CLOSED_ORDER;
        Account account = Scenes.spots(149);
        CHECK.due("the 150th", account.give(order, 23), 149);
        CHECK.due("spots()", account.spots(), 150);
        CHECK.due("breakOf(149)", account.breakOf(149), 23);
        CHECK.due("rest", account.rest(order), 476);
        CHECK.due("it could go there", Scenes.spots(150).whyNot(order, 23), 0);
        TWINS.refused("one more", () -> Scenes.spots(150), STATE, x -> x.give(order, 23));
    }

    private static void atMost150SpotsByFill() {
        CHECK.begin("Promise 15: as long as .. there are fewer than 150 spots");
        int order = Scenes.FULL_OPEN_ORDER;
        for (int free = 0; free <= 3; free++) {
            Account account = Scenes.spots(150 - free);
            CHECK.due("fill with " + free + " left", account.fill(order, 24), free);
            CHECK.due("spots()", account.spots(), 150);
            CHECK.due("fill again", account.fill(order, 1), 0);
            CHECK.due("spots()", account.spots(), 150);
        }
        CHECK.due("fill, most is 2 of 3", Scenes.spots(147).fill(order, 2), 2);
    }

    private static void atMost150SpotsInWhicheverState() {
        CHECK.begin("Promise 19: Returns how many spots there are, in whichever state.");
        Supplier<Account> scene = BoundsTest::fullInEachState;
        Account account = scene.get();
        CHECK.due("spots()", account.spots(), 150);
        CHECK.due("stateOf(0)", account.stateOf(0), SpotAccount.AIRED);
        CHECK.due("stateOf(1)", account.stateOf(1), SpotAccount.MISSED);
        CHECK.due("stateOf(25)", account.stateOf(25), SpotAccount.DROPPED);
        CHECK.due("stateOf(149)", account.stateOf(149), SpotAccount.PLANNED);
        TWINS.refused("place", scene, STATE, x -> x.place(Scenes.FULL_OPEN_ORDER, 0));
        TWINS.refused("give", scene, STATE, x -> x.give(Scenes.FULL_CLOSED_ORDER, 0));
        CHECK.due("fill", account.fill(Scenes.FULL_OPEN_ORDER, 24), 0);
        CHECK.due("move at the bound", account.move(149, 0), 18);
        CHECK.due("breakOf(149)", account.breakOf(149), 0);
    }

    private static Account fullInEachState() {
        Account account = Scenes.spots(150);
        account.air(23);
        account.miss(1);
        account.close(1);
        return account;
    }

    // ---- the ranges of arguments

    private static void secondsOfBreak() {
        CHECK.begin("Promise 2: seconds: 15 to 600");
        for (int seconds = 15; seconds <= 600; seconds++) {
            Account account = new Account();
            CHECK.due("addBreak(" + seconds + ")", account.addBreak(seconds), 0);
            CHECK.due("room(0)", account.room(0), seconds);
        }
        outOfRange("addBreak", Account::new, 15, 600, (x, value) -> x.addBreak(value));
        outOfRange("addBreak", Scenes::lively, 15, 600, (x, value) -> x.addBreak(value));
        for (int seconds = -15; seconds < 15; seconds++) {
            int few = seconds;
            TWINS.refused("addBreak(" + few + ")", Account::new, RANGE, x -> x.addBreak(few));
        }
    }

    private static void groupOfRate() {
        CHECK.begin("Promise 3: group: 0 to 2");
        for (int group = 0; group < 3; group++) {
            for (int at : new int[] {0, 1, 23}) {
                Account account = Scenes.breaks(24, 60);
                CHECK.due("rate", account.rate(at, group, 7), 0);
                for (int other = 0; other < 72; other++) {
                    boolean same = other == 3 * at + group;
                    CHECK.due("rating", account.rating(other / 3, other % 3), same ? 7 : 0);
                }
            }
        }
        outOfRange("rate", Scenes::lively, 0, 2, (x, group) -> x.rate(1, group, 5));
        outOfRange("rate", Scenes::lively, 0, 2, (x, group) -> x.rate(0, group, 5));
        outOfRange("rate", Scenes::lively, 0, 2, (x, group) -> x.rate(7, group, 5));
    }

    private static void ratingOfRate() {
        CHECK.begin("Promise 3: rating: 0 to 100000 .. Returns the rating before.");
        int[] ratings = {0, 1, 99999, 100000, 0, 100000, 50000, 32768, 65536, 127, 128, 255};
        Account account = Scenes.breaks(1, 60);
        int before = 0;
        for (int rating : ratings) {
            CHECK.due("rate(0, 2, " + rating + ")", account.rate(0, 2, rating), before);
            CHECK.due("rating(0, 2)", account.rating(0, 2), rating);
            before = rating;
        }
        for (int at : new int[] {0, 1, 7}) {
            outOfRange("rate", Scenes::lively, 0, 100000, (x, rating) -> x.rate(at, 0, rating));
        }
    }

    private static void groupOfRating() {
        CHECK.begin("Promise 8: group: 0 to 2");
        Account account = Scenes.breaks(24, 60);
        for (int cell = 0; cell < 72; cell++) {
            CHECK.due("rating, 0 at first", account.rating(cell / 3, cell % 3), 0);
        }
        for (int at : new int[] {0, 1, 7}) {
            outOfRange("rating", Scenes::lively, 0, 2, (x, group) -> x.rating(at, group));
        }
    }

    private static void advertiserOfOrder() {
        CHECK.begin("Promise 9: advertiser: 0 to 9");
        for (int advertiser = 0; advertiser < 10; advertiser++) {
            Account account = Scenes.rated(1, 60, 5);
            CHECK.due("addOrder", Scenes.order(account, advertiser, 0, 10), 0);
            account.place(0, 0);
            account.air(0);
            for (int other = 0; other < 10; other++) {
                CHECK.due("billTo", account.billTo(other), other == advertiser ? 100 : 0);
            }
        }
        orderOutOfRange(0, 0, 9);
    }

    private static void categoryOfOrder() {
        CHECK.begin("Promise 9: category: 0 to 7");
        for (int category = 0; category < 8; category++) {
            Account account = Scenes.rated(1, 60, 5);
            CHECK.due("addOrder", Scenes.order(account, 0, category, 10), 0);
            account.place(0, 0);
            for (int other = 0; other < 8; other++) {
                int order = Scenes.order(account, 1, other, 10);
                CHECK.due("whyNot", account.whyNot(order, 0), other == category ? 5 : 0);
            }
        }
        orderOutOfRange(1, 0, 7);
    }

    private static void groupOfOrder() {
        CHECK.begin("Promise 9: group: 0 to 2");
        for (int group = 0; group < 3; group++) {
            Account account = Scenes.breaks(1, 60);
            for (int rated = 0; rated < 3; rated++) {
                account.rate(0, rated, 11 + rated);
            }
            CHECK.due("addOrder", account.addOrder(0, 0, group, 15, 1, 100, 0), 0);
            account.place(0, 0);
            account.air(0);
            CHECK.due("delivered(0)", account.delivered(0), 11 + group);
        }
        orderOutOfRange(2, 0, 2);
    }

    private static void secondsOfOrder() {
        CHECK.begin("Promise 9: seconds: 15, 30 or 60");
        for (int seconds : new int[] {15, 30, 60}) {
            Account account = Scenes.breaks(1, 60);
            CHECK.due("addOrder", account.addOrder(0, 0, 0, seconds, 1, 100, 0), 0);
            account.place(0, 0);
            CHECK.due("room(0)", account.room(0), 60 - seconds);
        }
        orderOutOfRange(3, 15, 60);
        for (int seconds = -60; seconds <= 130; seconds++) {
            if (seconds != 15 && seconds != 30 && seconds != 60) {
                int[] all = {1, 1, 1, seconds, 1, 1, 1};
                TWINS.refused("seconds of " + seconds, Account::new, RANGE, x -> add(x, all));
            }
        }
    }

    private static void priceOfOrder() {
        CHECK.begin("Promise 9: price: 0 to 1000000");
        for (int price : new int[] {0, 1, 32768, 65536, 999999, 1000000}) {
            Account account = Scenes.breaks(2, 60);
            CHECK.due("addOrder", account.addOrder(0, 0, 0, 15, price, 100, 0), 0);
            account.place(0, 0);
            account.air(0);
            CHECK.due("bill(0)", account.bill(0), price);
            account.place(0, 1);
            account.air(1);
            CHECK.due("bill(0)", account.bill(0), 2 * price);
        }
        orderOutOfRange(4, 0, 1000000);
    }

    private static void promiseOfOrder() {
        CHECK.begin("Promise 9: promise: 0 to 1000000");
        for (int promise : new int[] {0, 1, 32768, 65536, 999999, 1000000}) {
            Account account = new Account();
            CHECK.due("addOrder", account.addOrder(0, 0, 0, 15, 1, promise, 0), 0);
            CHECK.due("close(0)", account.close(0), promise);
            CHECK.due("mostOwed()", account.mostOwed(), promise == 0 ? -1 : 0);
        }
        orderOutOfRange(5, 0, 1000000);
    }

    private static void floorOfOrder() {
        CHECK.begin("Promise 9: floor: 0 to 100000");
        for (int floor : new int[] {0, 1, 32768, 65536, 99999, 100000}) {
            Account account = Scenes.rated(1, 60, floor);
            CHECK.due("addOrder", account.addOrder(0, 0, 0, 15, 1, 100, floor), 0);
            CHECK.due("whyNot at the floor", account.whyNot(0, 0), 0);
            if (floor > 0) {
                account.rate(0, 0, floor - 1);
                CHECK.due("whyNot just below the floor", account.whyNot(0, 0), 3);
            }
        }
        orderOutOfRange(6, 0, 100000);
    }

    private static void orderOutOfRange(int place, int lowest, int highest) {
        for (int value : outside(lowest, highest)) {
            int[] all = {1, 1, 1, 30, 1, 1, 1};
            all[place] = value;
            String what = "addOrder, argument " + place + " of " + value;
            TWINS.refused(what, Account::new, RANGE, x -> add(x, all));
            TWINS.refused(what, Scenes::lively, RANGE, x -> add(x, all));
        }
    }

    private static void add(Account x, int[] a) {
        x.addOrder(a[0], a[1], a[2], a[3], a[4], a[5], a[6]);
    }

    private static void mostOfFill() {
        CHECK.begin("Promise 15: most: 1 to 24: how many spots at most");
        for (int most = 1; most <= 24; most++) {
            Account account = Scenes.spots(0);
            CHECK.due("fill(0, " + most + ")", account.fill(0, most), most);
            CHECK.due("spots()", account.spots(), most);
        }
        outOfRange("fill", () -> Scenes.spots(0), 1, 24, (x, most) -> x.fill(0, most));
        outOfRange("fill", Scenes::lively, 1, 24, (x, most) -> x.fill(0, most));
        outOfRange("fill without a break", () -> Scenes.orders(20), 1, 24,
                (x, most) -> x.fill(19, most));
        outOfRange("fill with 150 spots", () -> Scenes.spots(150), 1, 24,
                (x, most) -> x.fill(Scenes.FULL_OPEN_ORDER, most));
    }

    private static void advertiserOfBillTo() {
        CHECK.begin("Promise 26: advertiser: 0 to 9");
        Account account = Scenes.breaks(10, 60);
        for (int advertiser = 0; advertiser < 10; advertiser++) {
            account.addOrder(advertiser, advertiser % 8, 0, 15, 10 + advertiser, 100, 0);
            account.place(advertiser, advertiser);
            account.air(advertiser);
        }
        for (int advertiser = 0; advertiser < 10; advertiser++) {
            CHECK.due("billTo(" + advertiser + ")", account.billTo(advertiser), 10 + advertiser);
        }
        outOfRange("billTo", Account::new, 0, 9, (x, advertiser) -> x.billTo(advertiser));
        outOfRange("billTo", Scenes::lively, 0, 9, (x, advertiser) -> x.billTo(advertiser));
    }

    // ---- numbers of what there is, and the number behind the last

    private static void numbersOfBreaks() {
        CHECK.begin("Terms: IndexOutOfBoundsException: there is no such break");
        noSuchBreak(Scenes::lively, 8, 0, 1);
        noSuchBreak(() -> Scenes.spots(150), 24, 0, 0);
        Account account = Scenes.spots(0);
        CHECK.due("rate(23, 0, 9)", account.rate(23, 0, 9), 24);
        CHECK.due("rating(23, 0)", account.rating(23, 0), 9);
        CHECK.due("isAired(23)", account.isAired(23), false);
        CHECK.due("room(23)", account.room(23), 600);
        CHECK.due("whyNot(0, 23)", account.whyNot(0, 23), 0);
        CHECK.due("place(0, 23)", account.place(0, 23), 0);
        CHECK.due("give(8, 23)", account.give(Scenes.FULL_CLOSED_ORDER, 23), 1);
        CHECK.due("move(0, 0)", account.move(0, 0), 23);
        CHECK.due("move(0, 23)", account.move(0, 23), 0);
        CHECK.due("air(23)", account.air(23), 2);
        CHECK.due("isAired(23)", account.isAired(23), true);
    }

    private static void numbersOfOrders() {
        CHECK.begin("Terms: IndexOutOfBoundsException: there is no such .. order");
        noSuchOrder(Scenes::lively, 4, 6);
        noSuchOrder(BoundsTest::twentyOrders, 20, 0);
        Account account = twentyOrders();
        CHECK.due("whyNot(19, 0)", account.whyNot(19, 0), 0);
        CHECK.due("place(19, 0)", account.place(19, 0), 0);
        CHECK.due("fill(19, 24)", account.fill(19, 24), 2);
        account.air(0);
        CHECK.due("delivered(19)", account.delivered(19), 5);
        CHECK.due("bill(19)", account.bill(19), 100);
        CHECK.due("close(19)", account.close(19), 14);
        CHECK.due("owed(19)", account.owed(19), 14);
        CHECK.due("rest(19)", account.rest(19), 14);
        CHECK.due("give(19, 1)", account.give(19, 1), 3);
        CHECK.due("rest(19)", account.rest(19), 9);
        CHECK.due("mostOwed()", account.mostOwed(), 19);
    }

    private static Account twentyOrders() {
        Account account = Scenes.rated(3, 60, 5);
        for (int order = 0; order < 20; order++) {
            Scenes.order(account, order % 10, order % 8, order);
        }
        return account;
    }

    private static void numbersOfSpots() {
        CHECK.begin("Terms: IndexOutOfBoundsException: there is no such .. spot");
        noSuchSpot(Scenes::lively, 7, 5);
        noSuchSpot(() -> Scenes.spots(150), 150, 0);
        Account account = Scenes.spots(150);
        CHECK.due("stateOf(149)", account.stateOf(149), SpotAccount.PLANNED);
        CHECK.due("breakOf(149)", account.breakOf(149), 18);
        CHECK.due("move(149, 0)", account.move(149, 0), 18);
        account.drop(149);
        CHECK.due("stateOf(149)", account.stateOf(149), SpotAccount.DROPPED);
        CHECK.due("miss(0)", account.miss(0), false);
        CHECK.due("stateOf(0)", account.stateOf(0), SpotAccount.MISSED);
    }

    private static void greatestSums() {
        CHECK.begin("Promises 22 to 26: the greatest sums [no wrap-around]");
        Account account = Scenes.rated(24, 600, 100000);
        account.addOrder(0, 0, 0, 15, 1000000, 1000000, 100000);
        int placed = 0;
        for (int at = 0; at < 24; at++) {
            CHECK.due("place", account.place(0, at), placed++);
            account.air(at);
        }
        CHECK.due("delivered(0)", account.delivered(0), 2400000);
        CHECK.due("bill(0)", account.bill(0), 24000000);
        CHECK.due("billTo(0)", account.billTo(0), 24000000);
        CHECK.due("close(0), far above the promise", account.close(0), 0);
        CHECK.due("owed(0)", account.owed(0), 0);
        CHECK.due("rest(0)", account.rest(0), 0);
        for (int at = 0; at < 24; at++) {
            account.rate(at, 0, 0);
        }
        CHECK.due("delivered(0)", account.delivered(0), 0);
        CHECK.due("owed(0)", account.owed(0), 1000000);
        CHECK.due("bill(0)", account.bill(0), 24000000);
        greatestRest();
    }

    /** Planned free spots far above what is owed: that comes of ratings that are revised later. */
    private static void greatestRest() {
        Account account = Scenes.rated(24, 600, 0);
        account.addOrder(0, 0, 0, 15, 1000000, 1, 0);
        account.close(0);
        for (int at = 0; at < 24; at++) {
            account.give(0, at);
        }
        CHECK.due("rest(0), all rated 0", account.rest(0), 1);
        for (int at = 0; at < 24; at++) {
            account.rate(at, 0, 100000);
        }
        CHECK.due("rest(0), all rated 100000", account.rest(0), 0);
        CHECK.due("owed(0)", account.owed(0), 1);
    }
}
