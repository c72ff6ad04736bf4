import java.util.ArrayList;
import java.util.List;

/**
 * Long walks of calls, each answer compared with that of a second, slow account, which is written
 * from the document's words and shares nothing with the program. The walks are the same each time.
 */
public final class ModelTest {
    private static final int WALKS = 4000;

    private final Check check;
    private final Account account = new Account();
    private final Model model = new Model();
    private final int walk;
    private final Kind kind;
    private long seed;
    private int calls = 0;

    /** What a walk is like: how many there are of each, and how high the numbers go. */
    private static final class Kind {
        int breaks;
        int orders;
        int advertisers;
        int categories;
        int longest;
        int highestRating;
        int highestFloor;
        int highestPromise;
        boolean airsOften;
        boolean closesOften;
        boolean placesOften;
        boolean dropsOften;
    }

    private ModelTest(Check check, int walk) {
        this.check = check;
        this.walk = walk;
        this.seed = 1000003L * walk + 12345;
        this.kind = new Kind();
        kind.breaks = below(3) == 0 ? 24 : 1 + below(24);
        kind.orders = 1 + below(20);
        kind.advertisers = 1 + below(10);
        kind.categories = 1 + below(8);
        kind.longest = 15 + below(586);
        kind.highestRating = 1 << below(17);
        kind.highestFloor = below(3) == 0 ? 0 : kind.highestRating / (1 + below(20));
        kind.highestPromise = Math.min(1000000, kind.highestRating * (1 + below(16)));
        kind.airsOften = below(3) == 0;
        kind.closesOften = below(3) == 0;
        kind.placesOften = below(2) == 0;
        if (below(8) == 0) {
            widen();
        }
    }

    /** Room for so many spots that the limit of 150 is reached, and for dropping some of them. */
    private void widen() {
        kind.breaks = 24;
        kind.orders = 20;
        kind.advertisers = 10;
        kind.categories = 8;
        kind.longest = 600;
        kind.highestFloor = 0;
        kind.highestPromise = 1000000;
        kind.airsOften = false;
        kind.closesOften = false;
        kind.placesOften = true;
        kind.dropsOften = true;
    }

    public static void main(String[] args) {
        Check check = new Check();
        int[] greatest = new int[3];
        for (int number = 0; number < WALKS; number++) {
            check.begin("walk " + number);
            ModelTest walk = new ModelTest(check, number);
            walk.run();
            greatest[0] = Math.max(greatest[0], walk.model.breaks.size());
            greatest[1] = Math.max(greatest[1], walk.model.orders.size());
            greatest[2] = Math.max(greatest[2], walk.model.spots.size());
        }
        check.begin("all walks");
        check.due("the most breaks reached", greatest[0], 24);
        check.due("the most orders reached", greatest[1], 20);
        check.due("the most spots reached", greatest[2], 150);
        check.end();
    }

    private int below(int bound) {
        seed = seed * 6364136223846793005L + 1442695040888963407L;
        return (int) ((seed >>> 33) % bound);
    }

    /** A number of a thing, now and then of one that is not there. */
    private int pick(int count) {
        int chance = below(60);
        if (chance == 0 || count == 0) {
            return below(2) == 0 ? -1 : count;
        }
        return below(count);
    }

    private int range(int lowest, int highest) {
        int chance = below(80);
        if (chance == 0) {
            return below(2) == 0 ? lowest - 1 : highest + 1;
        }
        return chance < 4 ? highest : lowest + below(highest - lowest + 1);
    }

    /**
     * Of five walks one goes on to the last call; the others keep calls for a look at a part of
     * what there is then: all of it would be more than the calls of one object.
     */
    private void run() {
        int looksAt = walk % 5;
        int kept = new int[] {0, 220, 250, 250, 310}[looksAt];
        // A step makes four calls at most.
        while (calls <= Account.MOST_CALLS - kept - 4) {
            boolean early = calls < 4 * kind.breaks + kind.orders;
            boolean placing = kind.placesOften && below(4) > 0;
            step(early ? below(2) : placing ? busyStep() : below(40));
        }
        switch (looksAt) {
            case 1 -> lookAtBreaksAndOrders();
            case 2 -> lookAtReasons(0);
            case 3 -> lookAtReasons(1);
            case 4 -> lookAtSpots();
            default -> fillUp();
        }
    }

    private void fillUp() {
        while (calls < Account.MOST_CALLS) {
            same("mostOwed", account::mostOwed, "" + model.mostOwed());
        }
    }

    private void lookAtBreaksAndOrders() {
        for (int number = 0; number < model.breaks.size(); number++) {
            int at = number;
            same("isAired", () -> flag(account.isAired(at)), model.isAired(at));
            same("room", () -> account.room(at), model.room(at));
            for (int rated = 0; rated < 3; rated++) {
                int group = rated;
                same("rating", () -> account.rating(at, group), model.rating(at, group));
            }
        }
        for (int number = 0; number < model.orders.size(); number++) {
            int order = number;
            same("delivered", () -> account.delivered(order), model.delivered(order));
            same("owed", () -> account.owed(order), model.owed(order));
            same("rest", () -> account.rest(order), model.rest(order));
            same("bill", () -> account.bill(order), model.bill(order));
        }
        for (int number = 0; number < 10; number++) {
            int advertiser = number;
            same("billTo", () -> account.billTo(advertiser), model.billTo(advertiser));
        }
        same("mostOwed", account::mostOwed, "" + model.mostOwed());
    }

    private void lookAtReasons(int first) {
        for (int number = first; number < model.orders.size(); number += 2) {
            int order = number;
            for (int other = 0; other < model.breaks.size(); other++) {
                int at = other;
                same("whyNot", () -> account.whyNot(order, at), model.whyNot(order, at));
            }
        }
    }

    private void lookAtSpots() {
        for (int number = 0; number < model.spots.size(); number++) {
            int spot = number;
            same("stateOf", () -> account.stateOf(spot), model.stateOf(spot));
            same("breakOf", () -> account.breakOf(spot), model.breakOf(spot));
        }
        counts();
    }

    /** To place, give, fill, move, and now and then to drop. */
    private int busyStep() {
        return below(6) == 0 ? 29 : 12 + below(16);
    }

    private void step(int which) {
        int at = pick(model.breaks.size());
        int order = pick(model.orders.size());
        int spot = below(3) == 0 ? pick(model.spots.size()) : lateSpot();
        switch (which) {
            case 0 -> addBreak();
            case 1 -> addOrder();
            case 2, 3, 4 -> rate(at, range(0, 2));
            case 5 -> air(at);
            case 6 -> close(order);
            case 7, 8 -> same("room", () -> account.room(at), model.room(at));
            case 9 -> rating(at);
            case 10, 11 -> same("whyNot", () -> account.whyNot(order, at), model.whyNot(order, at));
            case 12, 13, 14, 15, 16, 17, 18 -> same(
                    "place", () -> account.place(order, at), model.place(order, at));
            case 19, 20, 21, 22 -> same(
                    "give", () -> account.give(order, at), model.give(order, at));
            case 23, 24 -> fill(order);
            case 25, 26, 27 -> same("move", () -> account.move(spot, at), model.move(spot, at));
            case 28 -> miss(spot);
            case 29, 30 -> drop(spot);
            case 31 -> same("stateOf", () -> account.stateOf(spot), model.stateOf(spot));
            case 32 -> same("breakOf", () -> account.breakOf(spot), model.breakOf(spot));
            case 33 -> same("delivered", () -> account.delivered(order), model.delivered(order));
            case 34 -> same("owed", () -> account.owed(order), model.owed(order));
            case 35 -> same("rest", () -> account.rest(order), model.rest(order));
            case 36 -> same("bill", () -> account.bill(order), model.bill(order));
            case 37 -> billTo();
            default -> same("mostOwed", account::mostOwed, "" + model.mostOwed());
        }
    }

    /** The newest spots are the ones that are planned yet. */
    private int lateSpot() {
        int count = model.spots.size();
        return count < 8 ? pick(count) : count - 1 - below(8);
    }

    private interface Call {
        int answer();
    }

    private void same(String what, Call call, String want) {
        calls++;
        int[] answer = new int[1];
        String thrown = Check.thrownBy(() -> answer[0] = call.answer());
        check.due(what, thrown.equals("nothing") ? "" + answer[0] : thrown, want);
    }

    private static int flag(boolean value) {
        return value ? 1 : 0;
    }

    private void drop(int spot) {
        if (kind.dropsOften || below(6) == 0) {
            same("drop", () -> dropped(spot), model.drop(spot));
        } else {
            same("breakOf", () -> account.breakOf(spot), model.breakOf(spot));
        }
    }

    private int dropped(int spot) {
        account.drop(spot);
        return 0;
    }

    private void addBreak() {
        int seconds = below(40) == 0 ? range(15, 600) : range(15, kind.longest);
        if (model.breaks.size() >= kind.breaks && below(4) > 0) {
            counts();
            return;
        }
        same("addBreak", () -> account.addBreak(seconds), model.addBreak(seconds));
        for (int group = 0; group < 3; group++) {
            rate(model.breaks.size() - 1, group);
        }
    }

    private void addOrder() {
        int[] a = {
            range(0, kind.advertisers - 1), range(0, kind.categories - 1), range(0, 2),
            below(50) == 0 ? below(70) : 15 << below(3), range(0, 1000000),
            range(0, kind.highestPromise), range(0, kind.highestFloor),
        };
        if (model.orders.size() >= kind.orders && below(2) > 0) {
            counts();
            return;
        }
        same(
                "addOrder",
                () -> account.addOrder(a[0], a[1], a[2], a[3], a[4], a[5], a[6]),
                model.addOrder(a));
    }

    private void rate(int at, int group) {
        int rating = below(40) == 0 ? range(0, 100000) : below(kind.highestRating + 1);
        same("rate", () -> account.rate(at, group, rating), model.rate(at, group, rating));
    }

    private void air(int at) {
        if (kind.airsOften || below(4) == 0) {
            same("air", () -> account.air(at), model.air(at));
        } else {
            same("isAired", () -> flag(account.isAired(at)), model.isAired(at));
        }
    }

    private void close(int order) {
        if (kind.closesOften || below(6) == 0) {
            same("close", () -> account.close(order), model.close(order));
        } else {
            same("rest", () -> account.rest(order), model.rest(order));
        }
    }

    private void rating(int at) {
        int group = range(0, 2);
        same("rating", () -> account.rating(at, group), model.rating(at, group));
    }

    private void miss(int spot) {
        if (below(3) == 0) {
            same("miss", () -> flag(account.miss(spot)), model.miss(spot));
        } else {
            same("stateOf", () -> account.stateOf(spot), model.stateOf(spot));
        }
    }

    private void fill(int order) {
        int most = below(2) == 0 ? range(1, 24) : range(1, 3);
        same("fill", () -> account.fill(order, most), model.fill(order, most));
    }

    private void billTo() {
        int advertiser = range(0, 9);
        same("billTo", () -> account.billTo(advertiser), model.billTo(advertiser));
    }

    private void counts() {
        same("breaks", account::breaks, "" + model.breaks.size());
        same("orders", account::orders, "" + model.orders.size());
        same("spots", account::spots, "" + model.spots.size());
    }

    /** The second account: its calls answer a text, a number or the name of an exception. */
    private static final class Model {
        static final String NO_SUCH = "IndexOutOfBoundsException";
        static final String RANGE = "IllegalArgumentException";
        static final String STATE = "IllegalStateException";

        final List<Break> breaks = new ArrayList<>();
        final List<Order> orders = new ArrayList<>();
        final List<Spot> spots = new ArrayList<>();

        static final class Break {
            int seconds;
            boolean aired;
            int[] rating = new int[3];
        }

        static final class Order {
            int[] given;
            boolean closed;

            int advertiser() {
                return given[0];
            }

            int category() {
                return given[1];
            }

            int group() {
                return given[2];
            }

            int seconds() {
                return given[3];
            }

            boolean isRivalOf(Order other) {
                return category() == other.category() && advertiser() != other.advertiser();
            }
        }

        static final class Spot {
            Order order;
            Break in;
            boolean free;
            int state;

            boolean counts() {
                return state == 0 || state == 1;
            }

            int audience() {
                return in.rating[order.group()];
            }
        }

        Break breakAt(int number) {
            return number < 0 || number >= breaks.size() ? null : breaks.get(number);
        }

        Order orderAt(int number) {
            return number < 0 || number >= orders.size() ? null : orders.get(number);
        }

        Spot spotAt(int number) {
            return number < 0 || number >= spots.size() ? null : spots.get(number);
        }

        static boolean outside(int value, int lowest, int highest) {
            return value < lowest || value > highest;
        }

        String addBreak(int seconds) {
            if (outside(seconds, 15, 600)) {
                return RANGE;
            }
            if (breaks.size() == 24) {
                return STATE;
            }
            Break added = new Break();
            added.seconds = seconds;
            breaks.add(added);
            return "" + (breaks.size() - 1);
        }

        String rate(int at, int group, int rating) {
            if (breakAt(at) == null) {
                return NO_SUCH;
            }
            if (outside(group, 0, 2) || outside(rating, 0, 100000)) {
                return RANGE;
            }
            int before = breakAt(at).rating[group];
            breakAt(at).rating[group] = rating;
            return "" + before;
        }

        String air(int at) {
            Break airing = breakAt(at);
            if (airing == null) {
                return NO_SUCH;
            }
            if (airing.aired) {
                return STATE;
            }
            airing.aired = true;
            int count = 0;
            for (Spot spot : spots) {
                if (spot.in == airing && spot.state == 0) {
                    spot.state = 1;
                    count++;
                }
            }
            return "" + count;
        }

        String isAired(int at) {
            return breakAt(at) == null ? NO_SUCH : breakAt(at).aired ? "1" : "0";
        }

        String room(int at) {
            return breakAt(at) == null ? NO_SUCH : "" + roomOf(breakAt(at), null);
        }

        int roomOf(Break in, Spot besides) {
            int used = 0;
            for (Spot spot : spots) {
                if (spot != besides && spot.in == in && spot.counts()) {
                    used += spot.order.seconds();
                }
            }
            return in.seconds - used;
        }

        String rating(int at, int group) {
            if (breakAt(at) == null) {
                return NO_SUCH;
            }
            return outside(group, 0, 2) ? RANGE : "" + breakAt(at).rating[group];
        }

        String addOrder(int[] given) {
            boolean wrong = outside(given[0], 0, 9)
                    || outside(given[1], 0, 7)
                    || outside(given[2], 0, 2)
                    || !List.of(15, 30, 60).contains(given[3])
                    || outside(given[4], 0, 1000000)
                    || outside(given[5], 0, 1000000)
                    || outside(given[6], 0, 100000);
            if (wrong) {
                return RANGE;
            }
            if (orders.size() == 20) {
                return STATE;
            }
            Order added = new Order();
            added.given = given;
            orders.add(added);
            return "" + (orders.size() - 1);
        }

        String close(int number) {
            Order order = orderAt(number);
            if (order == null) {
                return NO_SUCH;
            }
            if (order.closed) {
                return STATE;
            }
            order.closed = true;
            for (Spot spot : spots) {
                if (spot.order == order && spot.state == 0) {
                    spot.state = 3;
                }
            }
            return "" + owedTo(order);
        }

        /** The reason, 1 to 6, or 0, as the terms list them; the spot besides does not count. */
        int reason(Order order, Break in, Spot besides) {
            boolean[] holds = new boolean[7];
            holds[1] = in.aired;
            holds[2] = roomOf(in, besides) < order.seconds();
            holds[3] = in.rating[order.group()] < order.given[6];
            for (Spot spot : spots) {
                if (spot == besides || !spot.counts()) {
                    continue;
                }
                int away = Math.abs(breaks.indexOf(spot.in) - breaks.indexOf(in));
                holds[4] |= away == 0 && spot.order.advertiser() == order.advertiser();
                holds[5] |= away == 0 && spot.order.isRivalOf(order);
                holds[6] |= away == 1 && spot.order.isRivalOf(order);
            }
            for (int reason = 1; reason <= 6; reason++) {
                if (holds[reason]) {
                    return reason;
                }
            }
            return 0;
        }

        String whyNot(int order, int at) {
            if (orderAt(order) == null || breakAt(at) == null) {
                return NO_SUCH;
            }
            return "" + reason(orderAt(order), breakAt(at), null);
        }

        String place(int order, int at) {
            if (orderAt(order) == null || breakAt(at) == null) {
                return NO_SUCH;
            }
            return orderAt(order).closed ? STATE : added(orderAt(order), breakAt(at), false);
        }

        String give(int order, int at) {
            if (orderAt(order) == null || breakAt(at) == null) {
                return NO_SUCH;
            }
            return restOf(orderAt(order)) == 0
                    ? STATE
                    : added(orderAt(order), breakAt(at), true);
        }

        String added(Order order, Break in, boolean free) {
            if (reason(order, in, null) != 0 || spots.size() == 150) {
                return STATE;
            }
            Spot spot = new Spot();
            spot.order = order;
            spot.in = in;
            spot.free = free;
            spots.add(spot);
            return "" + (spots.size() - 1);
        }

        String fill(int number, int most) {
            Order order = orderAt(number);
            if (order == null) {
                return NO_SUCH;
            }
            if (outside(most, 1, 24)) {
                return RANGE;
            }
            if (order.closed) {
                return STATE;
            }
            int placed = 0;
            while (placed < most && fillOne(order)) {
                placed++;
            }
            return "" + placed;
        }

        boolean fillOne(Order order) {
            int together = 0;
            for (Spot spot : spots) {
                together += spot.order == order && spot.counts() ? spot.audience() : 0;
            }
            Break best = null;
            for (Break in : breaks) {
                boolean better = best == null
                        || in.rating[order.group()] > best.rating[order.group()];
                if (better && reason(order, in, null) == 0) {
                    best = in;
                }
            }
            if (together >= order.given[5] || best == null || spots.size() == 150) {
                return false;
            }
            added(order, best, false);
            return true;
        }

        String move(int number, int at) {
            Spot spot = spotAt(number);
            Break to = breakAt(at);
            if (spot == null || to == null) {
                return NO_SUCH;
            }
            if (spot.state != 0 || to != spot.in && reason(spot.order, to, spot) != 0) {
                return STATE;
            }
            Break before = spot.in;
            spot.in = to;
            return "" + breaks.indexOf(before);
        }

        String miss(int number) {
            Spot spot = spotAt(number);
            if (spot == null) {
                return NO_SUCH;
            }
            if (!spot.counts()) {
                return STATE;
            }
            int before = spot.state;
            spot.state = 2;
            return "" + before;
        }

        String drop(int number) {
            Spot spot = spotAt(number);
            if (spot == null) {
                return NO_SUCH;
            }
            if (spot.state != 0) {
                return STATE;
            }
            spot.state = 3;
            return "0";
        }

        String stateOf(int spot) {
            return spotAt(spot) == null ? NO_SUCH : "" + spotAt(spot).state;
        }

        String breakOf(int spot) {
            return spotAt(spot) == null ? NO_SUCH : "" + breaks.indexOf(spotAt(spot).in);
        }

        int deliveredBy(Order order) {
            int sum = 0;
            for (Spot spot : spots) {
                sum += spot.order == order && spot.state == 1 ? spot.audience() : 0;
            }
            return sum;
        }

        int owedTo(Order order) {
            return order.closed ? Math.max(0, order.given[5] - deliveredBy(order)) : 0;
        }

        int restOf(Order order) {
            int comes = 0;
            for (Spot spot : spots) {
                boolean coming = spot.order == order && spot.free && spot.state == 0;
                comes += coming ? spot.audience() : 0;
            }
            return Math.max(0, owedTo(order) - comes);
        }

        int billOf(Order order) {
            int count = 0;
            for (Spot spot : spots) {
                count += spot.order == order && !spot.free && spot.state == 1 ? 1 : 0;
            }
            return count * order.given[4];
        }

        String delivered(int order) {
            return orderAt(order) == null ? NO_SUCH : "" + deliveredBy(orderAt(order));
        }

        String owed(int order) {
            return orderAt(order) == null ? NO_SUCH : "" + owedTo(orderAt(order));
        }

        String rest(int order) {
            return orderAt(order) == null ? NO_SUCH : "" + restOf(orderAt(order));
        }

        String bill(int order) {
            return orderAt(order) == null ? NO_SUCH : "" + billOf(orderAt(order));
        }

        String billTo(int advertiser) {
            return outside(advertiser, 0, 9) ? RANGE : "" + billsOf(advertiser);
        }

        int billsOf(int advertiser) {
            int sum = 0;
            for (Order order : orders) {
                sum += order.advertiser() == advertiser ? billOf(order) : 0;
            }
            return sum;
        }

        int mostOwed() {
            int most = 0;
            for (Order order : orders) {
                most = Math.max(most, restOf(order));
            }
            for (int number = 0; number < orders.size() && most > 0; number++) {
                if (restOf(orders.get(number)) == most) {
                    return number;
                }
            }
            return -1;
        }
    }
}
