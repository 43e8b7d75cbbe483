/** Promise 8: tick. */
public final class Promise8TickTest {
    private static final Check check = new Check();

    public static void main(String[] args) {
        whenOrdersLapse();
        whichOrdersLapse();
        far();
        otherCallsSetTheClock();
        howManyAtOnce();
        refusals();
        check.end();
    }

    private static void whenOrdersLapse() {
        OrderRows2 x = new OrderRows2();
        x.order(0, 1, 0, 2, 0, 50);
        x.tick(1);
        x.order(0, 3, 0, 4, 0, 50);
        x.order(3, 5, 0, 0, 0, 50);
        check.due("tick(14)", x.tick(14), 0);
        check.due("tick(14) again", x.tick(14), 0);
        check.due("tick(15)", x.tick(15), 1);
        check.due("tick(15) again", x.tick(15), 0);
        check.due("tick(16)", x.tick(16), 2);
        check.due("tick(17)", x.tick(17), 0);
        check.due("the first, day 14", x.effective(1, 0, 0, 14), 2);
        check.due("the first, day 15", x.effective(1, 0, 0, 15), 1);
        check.due("the second, day 15", x.effective(3, 0, 0, 15), 4);
        check.due("the second, day 16", x.effective(3, 0, 0, 16), 3);
    }

    private static void whichOrdersLapse() {
        OrderRows2 x = new OrderRows2();
        x.order(0, 1, 0, 2, 0, 50);
        x.order(0, 1, 0, 2, 0, 50);
        x.order(0, 1, 0, 2, 0, 50);
        x.order(3, 1, 0, 2, 0, 3);
        x.order(6, 1, 0, 2, 1000, 2000);
        x.proof(1, true, 0);
        x.proof(2, false, 0);
        x.withdraw(3, 0);
        check.due("one behind its span, one before it", x.tick(30), 2);
        check.due("extend the one behind its span", x.extend(4, 9), Check.STATE);
        check.due("extend the one before it", x.extend(5, 3000), Check.STATE);
        check.due("the proved one", x.extend(1, 60), 1);
    }

    private static void far() {
        OrderRows2 x = new OrderRows2();
        x.order(0, 1, 0, 2, 0, 20000);
        check.due("tick(20000)", x.tick(20000), 1);
        check.due("over from day 15, not from the clock's", x.effective(1, 0, 0, 15), 1);
        check.due("in force on day 14", x.effective(1, 0, 0, 14), 2);
        x.order(0, 1, 0, 2, 0, 20000);
        check.due("the last day again", x.tick(20000), 0);
        check.due("it is in force", x.effective(1, 0, 0, 20000), 2);
    }

    private static void otherCallsSetTheClock() {
        OrderRows2 x = new OrderRows2();
        x.order(0, 1, 0, 2, 0, 50);
        x.order(0, 3, 0, 4, 0, 50);
        x.order(0, 5, 0, 6, 0, 50);
        x.proof(1, true, 10);
        check.due("tick(9)", x.tick(9), Check.OUTSIDE);
        x.withdraw(2, 15);
        check.due("lapsed by withdraw already", x.tick(16), 0);
        check.due("and over from day 15", x.effective(5, 0, 0, 15), 5);
        x.order(0, 5, 0, 6, 0, 50);
        x.proof(2, true, 31);
        check.due("lapsed by proof already", x.tick(31), 0);
        check.due("and over from day 31", x.effective(5, 0, 0, 31), 5);
    }

    private static void howManyAtOnce() {
        OrderRows2 x = new OrderRows2();
        for (int day = 0; day <= 9; day++) {
            x.tick(day);
            for (int n = 0; n < 20; n++) {
                x.order(n % 9, 1, n % 50, 2, 0, 50);
            }
        }
        check.due("tick(14)", x.tick(14), 0);
        check.due("tick(15)", x.tick(15), 20);
        check.due("over two days", x.tick(17), 40);
        check.due("all others", x.tick(20000), 140);
        check.due("none", x.tick(20000), 0);
    }

    private static void refusals() {
        OrderRows2 x = new OrderRows2();
        x.order(0, 1, 0, 2, 0, 50);
        x.tick(5);
        for (long t : new long[] {4, 0, -1, 20001, Long.MIN_VALUE, Long.MAX_VALUE, (1L << 32) + 6}) {
            check.due("t " + t, x.tick(t), Check.OUTSIDE);
        }
        check.due("the clock is as before", x.tick(5), 0);
        check.due("the order too", x.effective(1, 0, 0, 50), 2);
    }
}
