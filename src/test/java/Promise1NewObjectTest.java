/** Promise 1: a new object has no orders, the clock 0, ranks 0 and no ring. */
public final class Promise1NewObjectTest {
    private static final Check check = new Check();

    public static void main(String[] args) {
        hasNoOrders();
        hasNoNumberAtAll();
        clockIsZero();
        objectsAreApart();
        check.end();
    }

    private static void hasNoOrders() {
        OrderRows2 x = new OrderRows2();
        check.due("proof(1)", x.proof(1, true, 0), Check.UNKNOWN);
        check.due("withdraw(1)", x.withdraw(1, 0), Check.UNKNOWN);
        check.due("extend(1)", x.extend(1, 5), Check.UNKNOWN);
        check.due("told(0, 0)", x.told(0, 0), 0);
        check.due("ring(0)", x.ring(0), 0);
        for (int address = 1; address <= 99; address++) {
            check.due("effective(" + address + ")", x.effective(address, 0, 0, 0), address);
        }
        for (int kind = 0; kind <= 8; kind++) {
            check.due("rank(" + kind + ")", x.rank(kind, 0), 0);
        }
        check.due("first order", x.order(0, 1, 0, 2, 0, 5), 1);
    }

    private static void hasNoNumberAtAll() {
        OrderRows2 x = new OrderRows2();
        for (int number = -1; number <= 201; number++) {
            check.due("extend(" + number + ")", x.extend(number, 0), Check.UNKNOWN);
        }
        for (int i = 0; i <= 99; i++) {
            check.due("ring(" + i + ")", x.ring(i), 0);
            check.due("told(" + i / 2 + ", " + i % 2 + ")", x.told(i / 2, i % 2), 0);
        }
        check.due("none to lapse", x.tick(20000), 0);
    }

    private static void clockIsZero() {
        OrderRows2 x = new OrderRows2();
        check.due("tick(-1)", x.tick(-1), Check.OUTSIDE);
        check.due("tick(0)", x.tick(0), 0);
        // Made on day 0: day 14 is the last for a proof.
        OrderRows2 y = new OrderRows2();
        y.order(0, 1, 0, 2, 0, 5);
        check.due("tick(14)", y.tick(14), 0);
        check.due("tick(15)", y.tick(15), 1);
        OrderRows2 z = new OrderRows2();
        z.order(0, 1, 0, 2, 0, 0);
        z.proof(1, true, 0);
        check.due("told on day 0", z.told(0, 0), 1);
    }

    private static void objectsAreApart() {
        OrderRows2 x = new OrderRows2();
        OrderRows2 y = new OrderRows2();
        x.order(0, 1, 0, 2, 0, 5);
        x.order(0, 2, 0, 1, 0, 5);
        x.rank(0, 7);
        x.tick(3);
        check.due("x.effective(1)", x.effective(1, 0, 0, 0), -1);
        check.due("y.effective(1)", y.effective(1, 0, 0, 0), 1);
        check.due("y.ring(0)", y.ring(0), 0);
        check.due("y.rank(0)", y.rank(0, 0), 0);
        check.due("y.tick(2)", y.tick(2), 0);
        check.due("y.order", y.order(0, 1, 0, 2, 0, 5), 1);
    }
}
