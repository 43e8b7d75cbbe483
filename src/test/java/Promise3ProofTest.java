/** Promise 3: proof. */
public final class Promise3ProofTest {
    private static final Check check = new Check();

    public static void main(String[] args) {
        good();
        bad();
        unknown();
        outside();
        state();
        clockIsSetFirst();
        lastDay();
        behindItsSpan();
        check.end();
    }

    private static OrderRows2 withOrder() {
        OrderRows2 x = new OrderRows2();
        x.order(0, 1, 0, 2, 3, 30);
        return x;
    }

    private static void good() {
        OrderRows2 x = withOrder();
        check.due("good", x.proof(1, true, 3), 1);
        check.due("told", x.told(0, 0), 1);
        check.due("a proved order does not lapse", x.tick(20000), 0);
        check.due("in force", x.effective(1, 0, 0, 30), 2);
    }

    private static void bad() {
        OrderRows2 x = withOrder();
        check.due("bad", x.proof(1, false, 5), 0);
        check.due("in force below the clock's day", x.effective(1, 0, 0, 4), 2);
        check.due("over from the clock's day on", x.effective(1, 0, 0, 5), 1);
        check.due("told", x.told(0, 0), 0);
        check.due("it is over already", x.tick(20), 0);
        OrderRows2 y = withOrder();
        check.due("bad before its span", y.proof(1, false, 1), 0);
        check.due("never in force", y.effective(1, 0, 0, 3), 1);
        check.due("over", y.extend(1, 40), Check.STATE);
    }

    private static void unknown() {
        OrderRows2 x = withOrder();
        for (int order : new int[] {0, 2, -1, 200, 201, Integer.MIN_VALUE, Integer.MAX_VALUE}) {
            check.due("order " + order, x.proof(order, true, 9), Check.UNKNOWN);
            check.due("UNKNOWN before OUTSIDE", x.proof(order, false, -1), Check.UNKNOWN);
        }
        check.due("the clock is not set", x.tick(0), 0);
    }

    private static void outside() {
        OrderRows2 x = withOrder();
        x.tick(4);
        for (long t : new long[] {3, -1, 20001, Long.MIN_VALUE, Long.MAX_VALUE, (1L << 32) + 5}) {
            check.due("t " + t, x.proof(1, true, t), Check.OUTSIDE);
            check.due("t " + t, x.proof(1, false, t), Check.OUTSIDE);
        }
        check.due("the order is as before", x.effective(1, 0, 0, 30), 2);
        check.due("the clock's own day", x.proof(1, true, 4), 1);
        check.due("OUTSIDE before STATE", x.proof(1, true, 3), Check.OUTSIDE);
        check.due("the last day", x.proof(1, true, 20000), Check.STATE);
    }

    private static void state() {
        OrderRows2 x = withOrder();
        x.proof(1, true, 2);
        check.due("good on a proved one", x.proof(1, true, 2), Check.STATE);
        check.due("bad on a proved one", x.proof(1, false, 2), Check.STATE);
        check.due("it stays in force", x.effective(1, 0, 0, 10), 2);
        OrderRows2 y = withOrder();
        y.proof(1, false, 2);
        check.due("good on one that is over", y.proof(1, true, 2), Check.STATE);
        check.due("bad on one that is over", y.proof(1, false, 2), Check.STATE);
        OrderRows2 z = withOrder();
        z.withdraw(1, 6);
        check.due("bad on a withdrawn one", z.proof(1, false, 7), Check.STATE);
        check.due("it is over from where it was", z.effective(1, 0, 0, 6), 1);
    }

    private static void clockIsSetFirst() {
        OrderRows2 x = withOrder();
        x.order(0, 3, 0, 4, 0, 100);
        x.proof(1, true, 2);
        check.due("STATE", x.proof(1, true, 15), Check.STATE);
        check.due("the clock is set all the same", x.tick(14), Check.OUTSIDE);
        check.due("the other one has lapsed", x.effective(3, 0, 0, 15), 3);
        check.due("not before", x.effective(3, 0, 0, 14), 4);
        check.due("told on that day", x.told(0, 0), 1);
        check.due("nothing lapses again", x.tick(16), 0);
    }

    private static void lastDay() {
        OrderRows2 x = withOrder();
        check.due("14 days behind", x.proof(1, true, 14), 1);
        OrderRows2 y = withOrder();
        check.due("15 days behind", y.proof(1, true, 15), Check.STATE);
        check.due("over from day 15 on", y.effective(1, 0, 0, 15), 1);
        check.due("in force on day 14", y.effective(1, 0, 0, 14), 2);
        OrderRows2 z = withOrder();
        check.due("bad, 14 days behind", z.proof(1, false, 14), 0);
        check.due("over from the clock's day", z.effective(1, 0, 0, 14), 1);
        check.due("not before", z.effective(1, 0, 0, 13), 2);
    }

    /** An order whose last day is behind the clock is not over by that. */
    private static void behindItsSpan() {
        for (long t : new long[] {6, 14}) {
            OrderRows2 x = new OrderRows2();
            x.order(0, 1, 0, 2, 3, 5);
            check.due("good on " + t, x.proof(1, true, t), 1);
            check.due("good again", x.proof(1, true, t), Check.STATE);
            check.due("its last day stays", x.effective(1, 0, 0, 5), 2);
            OrderRows2 y = new OrderRows2();
            y.order(0, 1, 0, 2, 3, 5);
            check.due("bad on " + t, y.proof(1, false, t), 0);
            check.due("bad again", y.proof(1, false, t), Check.STATE);
            check.due("its last day stays, too", y.effective(1, 0, 0, 5), 2);
        }
    }
}
