/** Promise 10: told. */
public final class Promise10ToldTest {
    private static final Check check = new Check();

    public static void main(String[] args) {
        inTheirOrder();
        whichOrders();
        onTheClocksDay();
        full();
        refusals();
        check.end();
    }

    private static void isTold(OrderRows2 x, int person, int... want) {
        for (int i = 0; i < want.length; i++) {
            check.due("told(" + person + ", " + i + ")", x.told(person, i), want[i]);
        }
        check.due("told(" + person + ", " + want.length + ")", x.told(person, want.length), 0);
        for (int i : new int[] {-1, 200, Integer.MIN_VALUE, Integer.MAX_VALUE}) {
            check.due("told(" + person + ", " + i + ")", x.told(person, i), 0);
        }
    }

    private static void inTheirOrder() {
        OrderRows2 x = new OrderRows2();
        x.order(0, 1, 7, 2, 0, 9);
        x.order(1, 2, 7, 3, 0, 9);
        x.order(2, 3, 8, 1, 0, 9);
        x.order(0, 1, 7, 4, 0, 9);
        isTold(x, 7);
        x.proof(4, true, 0);
        isTold(x, 7, 4);
        x.proof(1, true, 0);
        isTold(x, 7, 1, 4);
        x.proof(2, true, 0);
        isTold(x, 7, 1, 2, 4);
        isTold(x, 8);
        x.proof(3, true, 0);
        isTold(x, 8, 3);
        isTold(x, 9);
        x.rank(0, 9);
        isTold(x, 7, 1, 2, 4);
        x.withdraw(2, 0);
        isTold(x, 7, 1, 4);
    }

    private static void whichOrders() {
        OrderRows2 x = new OrderRows2();
        for (int kind = 0; kind <= 8; kind++) {
            x.order(kind, 1, 0, 2, 0, 9);
            x.order(kind, 1, -1, 2, 0, 9);
            x.order(kind, 1, 49, 2, 0, 9);
        }
        for (int order = 1; order <= 27; order++) {
            x.proof(order, true, 0);
        }
        x.order(0, 1, 0, 2, 0, 9);
        isTold(x, 0, 1, 4, 7);
        isTold(x, 49, 3, 6, 9);
        isTold(x, 48);
        x.proof(28, false, 0);
        isTold(x, 0, 1, 4, 7);
    }

    private static void onTheClocksDay() {
        OrderRows2 x = new OrderRows2();
        x.order(0, 1, 0, 2, 3, 5);
        x.order(0, 1, 0, 2, 5, 6);
        x.proof(1, true, 0);
        x.proof(2, true, 2);
        isTold(x, 0);
        x.tick(3);
        isTold(x, 0, 1);
        x.tick(5);
        isTold(x, 0, 1, 2);
        x.tick(6);
        isTold(x, 0, 2);
        x.tick(7);
        isTold(x, 0);
        x.extend(1, 7);
        isTold(x, 0, 1);
        x.withdraw(1, 7);
        isTold(x, 0);
    }

    private static void full() {
        OrderRows2 x = new OrderRows2();
        for (int n = 1; n <= 200; n++) {
            x.order(n % 3, 1, 49, 2, 0, 9);
            x.proof(n, true, 0);
        }
        for (int i = 0; i <= 99; i++) {
            check.due("told(49, " + 2 * i + ")", x.told(49, 2 * i), 2 * i + 1);
        }
        check.due("the last", x.told(49, 199), 200);
        check.due("none behind it", x.told(49, 200), 0);
        check.due("the first", x.told(49, 0), 1);
        check.due("none before it", x.told(49, -1), 0);
        x.withdraw(1, 0);
        check.due("one less: the last", x.told(49, 198), 200);
        check.due("one less: none behind it", x.told(49, 199), 0);
    }

    private static void refusals() {
        OrderRows2 x = new OrderRows2();
        x.order(0, 1, -1, 2, 0, 9);
        x.proof(1, true, 0);
        for (int person : new int[] {-1, -2, 50, Integer.MIN_VALUE, Integer.MAX_VALUE}) {
            check.due("told(" + person + ", 0)", x.told(person, 0), Check.UNKNOWN);
            check.due("told(" + person + ", -1)", x.told(person, -1), Check.UNKNOWN);
        }
        isTold(x, 0);
        isTold(x, 49);
    }
}
