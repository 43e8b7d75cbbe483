/** The example of README.md, and what its table says of each call. */
public final class ReadmeExampleTest {
    private static final Check check = new Check();

    public static void main(String[] args) {
        example();
        table();
        check.end();
    }

    private static void example() {
        OrderRows2 orders = new OrderRows2();
        int number = orders.order(0, 1, 7, 2, 3, 9);
        check.due("the order", number, 1);
        check.due("its proof", orders.proof(number, true, 2), 1);
        check.due("effective", orders.effective(1, 7, 0, 5), 2);
    }

    private static void table() {
        OrderRows2 x = new OrderRows2();
        check.due("sends on class 0", x.order(0, 1, 7, 2, 0, 9), 1);
        check.due("holds class 1", x.order(1 * 3 + 1, 1, -1, 0, 0, 9), 2);
        check.due("refuses class 2", x.order(2 * 3 + 2, 1, -1, 0, 0, 9), 3);
        check.due("sends back", x.order(0, 2, 7, 1, 5, 5), 4);
        check.due("proved", x.proof(1, true, 0), 1);
        check.due("over", x.proof(2, false, 1), 0);
        check.due("an address", x.effective(1, 7, 0, 4), 2);
        check.due("held", x.effective(1, 7, 1, 0), 0);
        check.due("held no longer", x.effective(1, 7, 1, 1), 1);
        check.due("refused", x.effective(1, 7, 2, 4), -2);
        check.due("a ring", x.effective(1, 7, 0, 5), -1);
        check.due("ring(0)", x.ring(0), 1);
        check.due("ring(1)", x.ring(1), 2);
        check.due("ring(2)", x.ring(2), 0);
        check.due("told today", x.told(7, 0), 1);
        check.due("no other", x.told(7, 1), 0);
        check.due("rank before", x.rank(8, 4), 0);
        check.due("longer", x.extend(1, 12), 1);
        check.due("not later", x.extend(1, 12), 0);
        check.due("days lost", x.withdraw(1, 2), 11);
        check.due("lapsed", x.tick(15), 2);
    }
}
