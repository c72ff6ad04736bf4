/**
 * An advertising account of a station, as ../shared/DOC.md promises it.
 *
 * <p>Breaks, orders and spots are kept as columns: the arrays are made once, at the sizes that the
 * document allows at most, so that no call makes an object.
 */
public final class SpotAccount {
    public static final int NONE = -1;
    public static final int PLANNED = 0, AIRED = 1, MISSED = 2, DROPPED = 3;

    private static final int MOST_BREAKS = 24;
    private static final int MOST_ORDERS = 20;
    private static final int MOST_SPOTS = 150;
    private static final int MOST_IN_ONE_FILL = 24;

    private static final int SHORTEST_BREAK = 15;
    private static final int LONGEST_BREAK = 600;
    private static final int GROUPS = 3;
    private static final int ADVERTISERS = 10;
    private static final int CATEGORIES = 8;
    private static final int HIGHEST_RATING = 100000;
    private static final int HIGHEST_PRICE = 1000000;
    private static final int HIGHEST_PROMISE = 1000000;

    private static final int CAN_GO = 0;
    private static final int BREAK_IS_AIRED = 1;
    private static final int TOO_LITTLE_ROOM = 2;
    private static final int BELOW_FLOOR = 3;
    private static final int SAME_ADVERTISER = 4;
    private static final int RIVAL_IN_BREAK = 5;
    private static final int RIVAL_NEXT_TO_BREAK = 6;

    private int breakCount;
    private final int[] breakSeconds = new int[MOST_BREAKS];
    private final boolean[] breakAired = new boolean[MOST_BREAKS];
    private final int[] ratings = new int[MOST_BREAKS * GROUPS];

    private int orderCount;
    private final int[] orderAdvertiser = new int[MOST_ORDERS];
    private final int[] orderCategory = new int[MOST_ORDERS];
    private final int[] orderGroup = new int[MOST_ORDERS];
    private final int[] orderSeconds = new int[MOST_ORDERS];
    private final int[] orderPrice = new int[MOST_ORDERS];
    private final int[] orderPromise = new int[MOST_ORDERS];
    private final int[] orderFloor = new int[MOST_ORDERS];
    private final boolean[] orderClosed = new boolean[MOST_ORDERS];

    private int spotCount;
    private final int[] spotOrder = new int[MOST_SPOTS];
    private final int[] spotBreak = new int[MOST_SPOTS];
    private final int[] spotState = new int[MOST_SPOTS];
    private final boolean[] spotFree = new boolean[MOST_SPOTS];

    public SpotAccount() {
    }

    // ---- breaks

    public int addBreak(int seconds) throws IllegalArgumentException, IllegalStateException {
        checkArgument(isWithin(seconds, SHORTEST_BREAK, LONGEST_BREAK));
        checkState(breakCount < MOST_BREAKS);
        int at = breakCount;
        breakSeconds[at] = seconds;
        breakCount++;
        return at;
    }

    public int rate(int at, int group, int rating)
            throws IndexOutOfBoundsException, IllegalArgumentException {
        checkBreak(at);
        checkArgument(isGroup(group) && isWithin(rating, 0, HIGHEST_RATING));
        int cell = ratingCell(at, group);
        int before = ratings[cell];
        ratings[cell] = rating;
        return before;
    }

    public int air(int at) throws IndexOutOfBoundsException, IllegalStateException {
        checkBreak(at);
        checkState(!breakAired[at]);
        breakAired[at] = true;
        int aired = 0;
        for (int spot = 0; spot < spotCount; spot++) {
            if (spotBreak[spot] == at && spotState[spot] == PLANNED) {
                spotState[spot] = AIRED;
                aired++;
            }
        }
        return aired;
    }

    public int breaks() {
        return breakCount;
    }

    public boolean isAired(int at) throws IndexOutOfBoundsException {
        checkBreak(at);
        return breakAired[at];
    }

    public int room(int at) throws IndexOutOfBoundsException {
        checkBreak(at);
        return secondsLeft(at);
    }

    public int rating(int at, int group)
            throws IndexOutOfBoundsException, IllegalArgumentException {
        checkBreak(at);
        checkArgument(isGroup(group));
        return ratings[ratingCell(at, group)];
    }

    // ---- orders

    public int addOrder(
            int advertiser, int category, int group, int seconds, int price, int promise, int floor)
            throws IllegalArgumentException, IllegalStateException {
        checkArgument(isAdvertiser(advertiser));
        checkArgument(isWithin(category, 0, CATEGORIES - 1));
        checkArgument(isGroup(group));
        checkArgument(isSpotLength(seconds));
        checkArgument(isWithin(price, 0, HIGHEST_PRICE));
        checkArgument(isWithin(promise, 0, HIGHEST_PROMISE));
        checkArgument(isWithin(floor, 0, HIGHEST_RATING));
        checkState(orderCount < MOST_ORDERS);
        int order = orderCount;
        orderAdvertiser[order] = advertiser;
        orderCategory[order] = category;
        orderGroup[order] = group;
        orderSeconds[order] = seconds;
        orderPrice[order] = price;
        orderPromise[order] = promise;
        orderFloor[order] = floor;
        orderCount++;
        return order;
    }

    public int close(int order) throws IndexOutOfBoundsException, IllegalStateException {
        checkOrder(order);
        checkState(!orderClosed[order]);
        orderClosed[order] = true;
        for (int spot = 0; spot < spotCount; spot++) {
            if (spotOrder[spot] == order && spotState[spot] == PLANNED) {
                spotState[spot] = DROPPED;
            }
        }
        return owedTo(order);
    }

    public int orders() {
        return orderCount;
    }

    // ---- spots

    public int whyNot(int order, int at) throws IndexOutOfBoundsException {
        checkOrder(order);
        checkBreak(at);
        return obstacle(order, at);
    }

    public int place(int order, int at) throws IndexOutOfBoundsException, IllegalStateException {
        checkOrder(order);
        checkBreak(at);
        checkState(!orderClosed[order]);
        checkState(obstacle(order, at) == CAN_GO);
        checkState(spotCount < MOST_SPOTS);
        return addSpot(order, at, false);
    }

    public int give(int order, int at) throws IndexOutOfBoundsException, IllegalStateException {
        checkOrder(order);
        checkBreak(at);
        checkState(restOf(order) > 0);
        checkState(obstacle(order, at) == CAN_GO);
        checkState(spotCount < MOST_SPOTS);
        return addSpot(order, at, true);
    }

    public int fill(int order, int most)
            throws IndexOutOfBoundsException, IllegalArgumentException, IllegalStateException {
        checkOrder(order);
        checkArgument(isWithin(most, 1, MOST_IN_ONE_FILL));
        checkState(!orderClosed[order]);
        int placed = 0;
        while (placed < most && spotCount < MOST_SPOTS && isShortOfPromise(order)) {
            int at = bestBreak(order);
            if (at == NONE) {
                break;
            }
            addSpot(order, at, false);
            placed++;
        }
        return placed;
    }

    public int move(int spot, int at) throws IndexOutOfBoundsException, IllegalStateException {
        checkSpot(spot);
        checkBreak(at);
        checkState(spotState[spot] == PLANNED);
        int before = spotBreak[spot];
        // The moved spot needs no exception in obstacle: it is in a break other than this one,
        // and it is no rival of its own order.
        checkState(at == before || obstacle(spotOrder[spot], at) == CAN_GO);
        spotBreak[spot] = at;
        return before;
    }

    public boolean miss(int spot) throws IndexOutOfBoundsException, IllegalStateException {
        checkSpot(spot);
        checkState(isInBreak(spot));
        boolean wasAired = spotState[spot] == AIRED;
        spotState[spot] = MISSED;
        return wasAired;
    }

    public void drop(int spot) throws IndexOutOfBoundsException, IllegalStateException {
        checkSpot(spot);
        checkState(spotState[spot] == PLANNED);
        spotState[spot] = DROPPED;
    }

    public int spots() {
        return spotCount;
    }

    public int stateOf(int spot) throws IndexOutOfBoundsException {
        checkSpot(spot);
        return spotState[spot];
    }

    public int breakOf(int spot) throws IndexOutOfBoundsException {
        checkSpot(spot);
        return spotBreak[spot];
    }

    // ---- what is delivered, owed and billed

    public int delivered(int order) throws IndexOutOfBoundsException {
        checkOrder(order);
        return audience(order, AIRED);
    }

    public int owed(int order) throws IndexOutOfBoundsException {
        checkOrder(order);
        return owedTo(order);
    }

    public int rest(int order) throws IndexOutOfBoundsException {
        checkOrder(order);
        return restOf(order);
    }

    public int bill(int order) throws IndexOutOfBoundsException {
        checkOrder(order);
        return billOf(order);
    }

    public int billTo(int advertiser) throws IllegalArgumentException {
        checkArgument(isAdvertiser(advertiser));
        int sum = 0;
        for (int order = 0; order < orderCount; order++) {
            if (orderAdvertiser[order] == advertiser) {
                sum += billOf(order);
            }
        }
        return sum;
    }

    public int mostOwed() {
        int found = NONE;
        int greatest = 0;
        for (int order = 0; order < orderCount; order++) {
            int rest = restOf(order);
            if (rest > greatest) {
                greatest = rest;
                found = order;
            }
        }
        return found;
    }

    // ---- checks

    private void checkBreak(int at) {
        checkIndex(at, breakCount);
    }

    private void checkOrder(int order) {
        checkIndex(order, orderCount);
    }

    private void checkSpot(int spot) {
        checkIndex(spot, spotCount);
    }

    private static void checkIndex(int index, int count) {
        if (index < 0 || index >= count) {
            throw new IndexOutOfBoundsException("there is no such break, order or spot");
        }
    }

    private static void checkArgument(boolean inRange) {
        if (!inRange) {
            throw new IllegalArgumentException("an argument is out of its range");
        }
    }

    private static void checkState(boolean possible) {
        if (!possible) {
            throw new IllegalStateException("the account does not allow this now");
        }
    }

    private static boolean isWithin(int value, int lowest, int highest) {
        return value >= lowest && value <= highest;
    }

    private static boolean isGroup(int group) {
        return isWithin(group, 0, GROUPS - 1);
    }

    private static boolean isAdvertiser(int advertiser) {
        return isWithin(advertiser, 0, ADVERTISERS - 1);
    }

    private static boolean isSpotLength(int seconds) {
        return seconds == 15 || seconds == 30 || seconds == 60;
    }

    // ---- where spots can go

    private int obstacle(int order, int at) {
        if (breakAired[at]) {
            return BREAK_IS_AIRED;
        }
        if (secondsLeft(at) < orderSeconds[order]) {
            return TOO_LITTLE_ROOM;
        }
        if (ratingFor(order, at) < orderFloor[order]) {
            return BELOW_FLOOR;
        }
        if (holdsAdvertiser(at, orderAdvertiser[order])) {
            return SAME_ADVERTISER;
        }
        if (holdsRival(at, order)) {
            return RIVAL_IN_BREAK;
        }
        // The first and the last break have one neighbour: no spot is in a break -1 or breakCount.
        if (holdsRival(at - 1, order) || holdsRival(at + 1, order)) {
            return RIVAL_NEXT_TO_BREAK;
        }
        return CAN_GO;
    }

    private int bestBreak(int order) {
        int best = NONE;
        int greatest = 0;
        for (int at = 0; at < breakCount; at++) {
            int rating = ratingFor(order, at);
            if ((best == NONE || rating > greatest) && obstacle(order, at) == CAN_GO) {
                greatest = rating;
                best = at;
            }
        }
        return best;
    }

    private int addSpot(int order, int at, boolean free) {
        int spot = spotCount;
        spotOrder[spot] = order;
        spotBreak[spot] = at;
        spotState[spot] = PLANNED;
        spotFree[spot] = free;
        spotCount++;
        return spot;
    }

    private boolean isInBreak(int spot) {
        return spotState[spot] == PLANNED || spotState[spot] == AIRED;
    }

    private int secondsLeft(int at) {
        int left = breakSeconds[at];
        for (int spot = 0; spot < spotCount; spot++) {
            if (spotBreak[spot] == at && isInBreak(spot)) {
                left -= orderSeconds[spotOrder[spot]];
            }
        }
        return left;
    }

    private boolean holdsAdvertiser(int at, int advertiser) {
        for (int spot = 0; spot < spotCount; spot++) {
            if (spotBreak[spot] == at
                    && isInBreak(spot)
                    && orderAdvertiser[spotOrder[spot]] == advertiser) {
                return true;
            }
        }
        return false;
    }

    private boolean holdsRival(int at, int order) {
        for (int spot = 0; spot < spotCount; spot++) {
            if (spotBreak[spot] == at && isInBreak(spot) && areRivals(spotOrder[spot], order)) {
                return true;
            }
        }
        return false;
    }

    private boolean areRivals(int one, int other) {
        return orderCategory[one] == orderCategory[other]
                && orderAdvertiser[one] != orderAdvertiser[other];
    }

    // ---- audience and money

    private static int ratingCell(int at, int group) {
        return at * GROUPS + group;
    }

    private int ratingFor(int order, int at) {
        return ratings[ratingCell(at, orderGroup[order])];
    }

    private int audience(int order, int state) {
        int sum = 0;
        for (int spot = 0; spot < spotCount; spot++) {
            if (spotOrder[spot] == order && spotState[spot] == state) {
                sum += ratingFor(order, spotBreak[spot]);
            }
        }
        return sum;
    }

    private boolean isShortOfPromise(int order) {
        return audience(order, AIRED) + audience(order, PLANNED) < orderPromise[order];
    }

    private int owedTo(int order) {
        if (!orderClosed[order]) {
            return 0;
        }
        return Math.max(orderPromise[order] - audience(order, AIRED), 0);
    }

    private int restOf(int order) {
        int left = owedTo(order);
        for (int spot = 0; spot < spotCount; spot++) {
            if (spotOrder[spot] == order && spotFree[spot] && spotState[spot] == PLANNED) {
                left -= ratingFor(order, spotBreak[spot]);
            }
        }
        return Math.max(left, 0);
    }

    private int billOf(int order) {
        int sum = 0;
        for (int spot = 0; spot < spotCount; spot++) {
            if (spotOrder[spot] == order && !spotFree[spot] && spotState[spot] == AIRED) {
                sum += orderPrice[order];
            }
        }
        return sum;
    }
}
