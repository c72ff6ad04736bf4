import java.util.ArrayList;
import java.util.List;
import java.util.function.ToIntFunction;

/**
 * The account as the tests use it: it passes each call on to a SpotAccount, and keeps it, so that
 * twins can be made of it. What an object answers after its 512th call is free, so a test that
 * asks for more is itself wrong and ends here.
 */
final class Account {
    static final int MOST_CALLS = 512;

    private final SpotAccount account = new SpotAccount();
    private final List<ToIntFunction<SpotAccount>> calls = new ArrayList<>();

    /** Another account that got the same calls. */
    Account twin() {
        Account twin = new Account();
        for (ToIntFunction<SpotAccount> call : calls) {
            Check.answer(() -> twin.ask(call));
        }
        return twin;
    }

    /** How many calls it got, those that were refused too. */
    int calls() {
        return calls.size();
    }

    private int ask(ToIntFunction<SpotAccount> call) {
        if (calls.size() == MOST_CALLS) {
            throw new AssertionError("a test uses an object for more than 512 calls");
        }
        calls.add(call);
        return call.applyAsInt(account);
    }

    private static int flag(boolean value) {
        return value ? 1 : 0;
    }

    // ---- breaks

    int addBreak(int seconds) {
        return ask(x -> x.addBreak(seconds));
    }

    int rate(int at, int group, int rating) {
        return ask(x -> x.rate(at, group, rating));
    }

    int air(int at) {
        return ask(x -> x.air(at));
    }

    int breaks() {
        return ask(x -> x.breaks());
    }

    boolean isAired(int at) {
        return ask(x -> flag(x.isAired(at))) == 1;
    }

    int room(int at) {
        return ask(x -> x.room(at));
    }

    int rating(int at, int group) {
        return ask(x -> x.rating(at, group));
    }

    // ---- orders

    int addOrder(
            int advertiser, int category, int group, int seconds, int price, int promise, int floor) {
        return ask(x -> x.addOrder(advertiser, category, group, seconds, price, promise, floor));
    }

    int close(int order) {
        return ask(x -> x.close(order));
    }

    int orders() {
        return ask(x -> x.orders());
    }

    // ---- spots

    int whyNot(int order, int at) {
        return ask(x -> x.whyNot(order, at));
    }

    int place(int order, int at) {
        return ask(x -> x.place(order, at));
    }

    int give(int order, int at) {
        return ask(x -> x.give(order, at));
    }

    int fill(int order, int most) {
        return ask(x -> x.fill(order, most));
    }

    int move(int spot, int at) {
        return ask(x -> x.move(spot, at));
    }

    boolean miss(int spot) {
        return ask(x -> flag(x.miss(spot))) == 1;
    }

    void drop(int spot) {
        ask(x -> {
            x.drop(spot);
            return 0;
        });
    }

    int spots() {
        return ask(x -> x.spots());
    }

    int stateOf(int spot) {
        return ask(x -> x.stateOf(spot));
    }

    int breakOf(int spot) {
        return ask(x -> x.breakOf(spot));
    }

    // ---- what is delivered, owed and billed

    int delivered(int order) {
        return ask(x -> x.delivered(order));
    }

    int owed(int order) {
        return ask(x -> x.owed(order));
    }

    int rest(int order) {
        return ask(x -> x.rest(order));
    }

    int bill(int order) {
        return ask(x -> x.bill(order));
    }

    int billTo(int advertiser) {
        return ask(x -> x.billTo(advertiser));
    }

    int mostOwed() {
        return ask(x -> x.mostOwed());
    }
}
