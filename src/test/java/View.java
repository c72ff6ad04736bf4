/**
 * All that an account tells of itself, as one text, so that two states can be compared.
 *
 * <p>The document promises 512 calls of an object, and some views go beyond: the program counts no
 * calls, so what it answers then is what it would have answered before.
 */
final class View {
    private View() {
    }

    static String of(SpotAccount account) {
        StringBuilder text = new StringBuilder();
        for (int at = 0; at < account.breaks(); at++) {
            text.append("break ").append(at).append(account.isAired(at) ? " aired" : " open");
            text.append(" room ").append(account.room(at)).append(" ratings");
            for (int group = 0; group < 3; group++) {
                text.append(' ').append(account.rating(at, group));
            }
            text.append('\n');
        }
        for (int order = 0; order < account.orders(); order++) {
            text.append("order ").append(order);
            text.append(" delivered ").append(account.delivered(order));
            text.append(" owed ").append(account.owed(order));
            text.append(" rest ").append(account.rest(order));
            text.append(" bill ").append(account.bill(order)).append(" why");
            for (int at = 0; at < account.breaks(); at++) {
                text.append(' ').append(account.whyNot(order, at));
            }
            text.append('\n');
        }
        for (int spot = 0; spot < account.spots(); spot++) {
            text.append("spot ").append(spot);
            text.append(" state ").append(account.stateOf(spot));
            text.append(" break ").append(account.breakOf(spot)).append('\n');
        }
        text.append("bills");
        for (int advertiser = 0; advertiser < 10; advertiser++) {
            text.append(' ').append(account.billTo(advertiser));
        }
        return text.append(" most owed ").append(account.mostOwed()).toString();
    }
}
