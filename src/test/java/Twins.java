import java.util.function.Consumer;
import java.util.function.Supplier;

/**
 * "A call that throws changes nothing": of two accounts that were made by the same calls one gets
 * the refused call, and both must answer the same then. What they answer is asked in parts, each
 * of a new pair, so that no object is used for more than 512 calls.
 */
final class Twins {
    private static final int PARTS = 7;

    private final Check check;

    Twins(Check check) {
        this.check = check;
    }

    void refused(
            String what,
            Supplier<Account> scene,
            Class<? extends Exception> want,
            Consumer<Account> call) {
        for (int part = 0; part < PARTS; part++) {
            Account refusing = scene.get();
            String thrown = Check.thrownBy(() -> call.accept(refusing));
            check.due(what + " throws", thrown, want.getSimpleName());
            check.due(
                    "part " + part + " of the answers after " + what,
                    part(refusing, part),
                    part(scene.get(), part));
        }
    }

    private static String part(Account account, int part) {
        StringBuilder text = new StringBuilder();
        switch (part) {
            case 0 -> breaks(account, text);
            case 1 -> sums(account, text);
            case 2 -> reasons(account, 0, text);
            case 3 -> reasons(account, 1, text);
            case 4 -> spots(account, 0, text);
            case 5 -> spots(account, 1, text);
            default -> future(account, text);
        }
        return text.toString();
    }

    private static void breaks(Account account, StringBuilder text) {
        int breaks = account.breaks();
        text.append(breaks).append(" breaks");
        for (int at = 0; at < breaks; at++) {
            text.append(account.isAired(at) ? "; aired " : "; open ").append(account.room(at));
            for (int group = 0; group < 3; group++) {
                text.append(' ').append(account.rating(at, group));
            }
        }
    }

    private static void sums(Account account, StringBuilder text) {
        int orders = account.orders();
        text.append(orders).append(" orders");
        for (int order = 0; order < orders; order++) {
            text.append("; delivered ").append(account.delivered(order));
            text.append(" owed ").append(account.owed(order));
            text.append(" rest ").append(account.rest(order));
            text.append(" bill ").append(account.bill(order));
        }
        for (int advertiser = 0; advertiser < 10; advertiser++) {
            text.append("; bills ").append(account.billTo(advertiser));
        }
        text.append("; most owed ").append(account.mostOwed());
    }

    /** Of every second order only, as of the spots: those of all would be too many calls. */
    private static void reasons(Account account, int first, StringBuilder text) {
        int breaks = account.breaks();
        int orders = account.orders();
        for (int order = first; order < orders; order += 2) {
            text.append("; order ").append(order);
            for (int at = 0; at < breaks; at++) {
                text.append(' ').append(account.whyNot(order, at));
            }
        }
    }

    private static void spots(Account account, int first, StringBuilder text) {
        int count = account.spots();
        text.append(count).append(" spots");
        for (int spot = first; spot < count; spot += 2) {
            text.append("; ").append(account.stateOf(spot));
            text.append(" in ").append(account.breakOf(spot));
        }
    }

    /** What becomes of the account: that shows what no call tells now, as which spots are free. */
    private static void future(Account account, StringBuilder text) {
        int breaks = account.breaks();
        int orders = account.orders();
        for (int order = 0; order < orders; order++) {
            int filled = order;
            text.append("; fill ").append(Check.answer(() -> account.fill(filled, 24)));
        }
        for (int at = 0; at < breaks; at++) {
            int aired = at;
            text.append("; air ").append(Check.answer(() -> account.air(aired)));
        }
        for (int order = 0; order < orders; order++) {
            int closed = order;
            text.append("; close ").append(Check.answer(() -> account.close(closed)));
        }
        sums(account, text);
        text.append("; add ").append(Check.answer(() -> account.addBreak(60)));
        text.append(' ').append(Check.answer(() -> Scenes.order(account, 0, 0, 1)));
        text.append("; ").append(account.spots()).append(" spots");
    }
}
