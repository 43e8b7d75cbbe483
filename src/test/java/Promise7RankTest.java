/** Promise 7: rank. */
public final class Promise7RankTest {
    private static final Check check = new Check();

    public static void main(String[] args) {
        thatBefore();
        fromNowOn();
        refusals();
        check.end();
    }

    private static void thatBefore() {
        OrderRows2 x = new OrderRows2();
        for (int kind = 0; kind <= 8; kind++) {
            check.due("rank(" + kind + ", 10)", x.rank(kind, 10 + kind), 0);
        }
        for (int kind = 0; kind <= 8; kind++) {
            check.due("rank(" + kind + ", 100)", x.rank(kind, 100), 10 + kind);
            check.due("rank(" + kind + ", 0)", x.rank(kind, 0), 100);
            check.due("rank(" + kind + ", 0)", x.rank(kind, 0), 0);
        }
    }

    private static void fromNowOn() {
        OrderRows2 x = new OrderRows2();
        x.order(0, 1, 0, 2, 0, 9);
        x.order(3, 1, 0, 0, 0, 9);
        check.due("same rank", x.effective(1, 0, 0, 0), 0);
        x.rank(0, 5);
        check.due("orders there already", x.effective(1, 0, 0, 0), 2);
        x.rank(3, 5);
        check.due("same rank again", x.effective(1, 0, 0, 0), 0);
        x.rank(3, 4);
        check.due("a smaller one", x.effective(1, 0, 0, 0), 2);
        x.order(3, 1, 0, 0, 0, 9);
        check.due("an order made later", x.effective(1, 0, 0, 0), 2);
    }

    private static void refusals() {
        OrderRows2 x = new OrderRows2();
        x.rank(3, 50);
        for (int kind : new int[] {-1, 9, Integer.MIN_VALUE, Integer.MAX_VALUE}) {
            check.due("kind " + kind, x.rank(kind, 1), Check.OUTSIDE);
        }
        for (int r : new int[] {-1, 101, Integer.MIN_VALUE, Integer.MAX_VALUE}) {
            check.due("r " + r, x.rank(3, r), Check.OUTSIDE);
        }
        check.due("unchanged", x.rank(3, 51), 50);
    }
}
