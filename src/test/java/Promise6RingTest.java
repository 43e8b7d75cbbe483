/** Promise 6: ring. */
public final class Promise6RingTest {
    private static final Check check = new Check();

    public static void main(String[] args) {
        noneYet();
        latestRing();
        ringOfAll();
        check.end();
    }

    private static void isRing(OrderRows2 x, int... want) {
        for (int i = 0; i < want.length; i++) {
            check.due("ring(" + i + ")", x.ring(i), want[i]);
        }
        check.due("ring(" + want.length + ")", x.ring(want.length), 0);
        for (int i : new int[] {-1, 98, 99, 100, 101, Integer.MIN_VALUE, Integer.MAX_VALUE}) {
            if (i >= want.length || i < 0) {
                check.due("ring(" + i + ")", x.ring(i), 0);
            }
        }
    }

    private static void noneYet() {
        OrderRows2 x = new OrderRows2();
        isRing(x);
        x.order(0, 1, 0, 2, 0, 9);
        x.order(0, 2, 0, 3, 0, 9);
        x.effective(1, 0, 0, 0);
        isRing(x);
    }

    private static void latestRing() {
        OrderRows2 x = new OrderRows2();
        x.order(0, 9, -1, 8, 0, 9);
        x.order(0, 8, -1, 3, 0, 9);
        x.order(0, 3, -1, 7, 0, 9);
        x.order(0, 7, -1, 5, 0, 9);
        x.order(0, 5, -1, 3, 4, 9);
        x.order(0, 5, -1, 9, 8, 9);
        check.due("a ring at the end", x.effective(9, 0, 0, 4), -1);
        isRing(x, 3, 7, 5);
        check.due("from within", x.effective(7, 0, 0, 4), -1);
        isRing(x, 7, 5, 3);
        check.due("a longer one", x.effective(8, 0, 0, 8), -1);
        isRing(x, 8, 3, 7, 5, 9);
        check.due("no ring", x.effective(9, 0, 0, 0), 5);
        isRing(x, 8, 3, 7, 5, 9);
        check.due("a shorter one at the end", x.effective(9, 0, 0, 4), -1);
        isRing(x, 3, 7, 5);
        check.due("the longer one again", x.effective(8, 0, 0, 8), -1);
        isRing(x, 8, 3, 7, 5, 9);
        check.due("refused", x.effective(9, 0, 3, 4), Check.OUTSIDE);
        isRing(x, 8, 3, 7, 5, 9);
        x.order(1, 1, 0, 2, 0, 9);
        x.order(1, 2, 0, 1, 0, 9);
        check.due("a shorter one", x.effective(2, 0, 1, 4), -1);
        isRing(x, 2, 1);
        x.withdraw(8, 0);
        isRing(x, 2, 1);
        x.tick(100);
        isRing(x, 2, 1);
    }

    private static void ringOfAll() {
        OrderRows2 x = new OrderRows2();
        for (int address = 1; address <= 99; address++) {
            x.order(0, address, -1, address % 99 + 1, 0, 9);
        }
        x.effective(1, 0, 0, 0);
        int[] all = new int[99];
        for (int i = 0; i < 99; i++) {
            all[i] = i + 1;
        }
        isRing(x, all);
        x.effective(99, 0, 0, 0);
        check.due("ring(0)", x.ring(0), 99);
        check.due("ring(98)", x.ring(98), 98);
        check.due("ring(99)", x.ring(99), 0);
    }
}
