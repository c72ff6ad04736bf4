/** The example of README.md answers what is said there. */
public final class ExampleTest {
    public static void main(String[] args) {
        Check check = new Check();
        check.begin("README.md");
        SpotAccount account = new SpotAccount();
        int evening = account.addBreak(120);
        account.rate(evening, 0, 50);
        int order = account.addOrder(1, 2, 0, 30, 500, 120, 10);
        check.due("whyNot", account.whyNot(order, evening), 0);
        int paid = account.place(order, evening);
        check.due("whyNot", account.whyNot(order, evening), 4);
        check.due("air", account.air(evening), 1);
        check.due("stateOf", account.stateOf(paid), SpotAccount.AIRED);
        check.due("delivered", account.delivered(order), 50);
        check.due("close", account.close(order), 70);
        int late = account.addBreak(60);
        account.rate(late, 0, 80);
        check.due("mostOwed", account.mostOwed(), order);
        account.give(order, late);
        check.due("rest", account.rest(order), 0);
        account.rate(evening, 0, 30);
        check.due("rest, revised", account.rest(order), 10);
        check.due("bill", account.bill(order), 500);
        check.due(
                "place",
                Check.answer(() -> account.place(order, late)),
                "IllegalStateException");
        check.end();
    }
}
