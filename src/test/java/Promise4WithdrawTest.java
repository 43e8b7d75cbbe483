/** Promise 4: withdraw. */
public final class Promise4WithdrawTest {
    private static final Check check = new Check();

    public static void main(String[] args) {
        days();
        overFromTheClocksDay();
        daysNotInForceByThat();
        unknown();
        outside();
        state();
        check.end();
    }

    private static OrderRows2 withOrder(long from, long until) {
        OrderRows2 x = new OrderRows2();
        x.order(0, 1, 0, 2, from, until);
        return x;
    }

    private static void days() {
        check.due("before its span", withOrder(3, 9).withdraw(1, 0), 7);
        check.due("the day before it", withOrder(3, 9).withdraw(1, 2), 7);
        check.due("its first day", withOrder(3, 9).withdraw(1, 3), 7);
        check.due("its second day", withOrder(3, 9).withdraw(1, 4), 6);
        check.due("its last day", withOrder(3, 9).withdraw(1, 9), 1);
        check.due("the day behind it", withOrder(3, 9).withdraw(1, 10), 0);
        check.due("far behind it", withOrder(3, 9).withdraw(1, 14), 0);
        check.due("one day", withOrder(4, 4).withdraw(1, 4), 1);
        check.due("all days", withOrder(0, 20000).withdraw(1, 0), 20001);
        OrderRows2 x = withOrder(3, 9);
        x.proof(1, true, 1);
        check.due("a proved one, far on", x.withdraw(1, 20000), 0);
        OrderRows2 y = withOrder(3, 9);
        y.extend(1, 12);
        check.due("an extended one", y.withdraw(1, 8), 5);
        OrderRows2 z = withOrder(3, 20000);
        z.proof(1, true, 14);
        check.due("the last day of all", z.withdraw(1, 20000), 1);
        OrderRows2 held = new OrderRows2();
        held.order(4, 1, -1, 0, 3, 9);
        check.due("a held one", held.withdraw(1, 5), 5);
    }

    /** The answer is how many days effective() loses by the withdrawal, one by one. */
    private static void daysNotInForceByThat() {
        for (int t = 0; t <= 8; t++) {
            OrderRows2 x = withOrder(3, 6);
            int before = daysInForce(x);
            check.due("days before", before, 4);
            int lost = x.withdraw(1, t);
            check.due("withdrawn on " + t, before - daysInForce(x), lost);
        }
    }

    private static int daysInForce(OrderRows2 x) {
        int days = 0;
        for (int day = 0; day <= 10; day++) {
            if (x.effective(1, 0, 0, day) == 2) {
                days++;
            }
        }
        return days;
    }

    private static void overFromTheClocksDay() {
        OrderRows2 x = withOrder(3, 9);
        x.proof(1, true, 3);
        x.withdraw(1, 5);
        check.due("below that day", x.effective(1, 0, 0, 4), 2);
        check.due("on that day", x.effective(1, 0, 0, 5), 1);
        check.due("told", x.told(0, 0), 0);
        check.due("the clock is set", x.tick(4), Check.OUTSIDE);
        OrderRows2 y = withOrder(3, 9);
        y.withdraw(1, 2);
        check.due("over before its span", y.effective(1, 0, 0, 3), 1);
        check.due("a withdrawn one does not lapse", y.tick(20), 0);
    }

    private static void unknown() {
        OrderRows2 x = withOrder(3, 9);
        for (int order : new int[] {0, 2, -1, 201, Integer.MIN_VALUE, Integer.MAX_VALUE}) {
            check.due("order " + order, x.withdraw(order, 5), Check.UNKNOWN);
            check.due("UNKNOWN before OUTSIDE", x.withdraw(order, 20001), Check.UNKNOWN);
        }
        check.due("the clock is not set", x.tick(0), 0);
    }

    private static void outside() {
        OrderRows2 x = withOrder(3, 9);
        x.tick(4);
        for (long t : new long[] {3, 0, -1, 20001, Long.MIN_VALUE, Long.MAX_VALUE}) {
            check.due("t " + t, x.withdraw(1, t), Check.OUTSIDE);
        }
        check.due("it is as before", x.effective(1, 0, 0, 9), 2);
        check.due("the clock's own day", x.withdraw(1, 4), 6);
        check.due("OUTSIDE before STATE", x.withdraw(1, 3), Check.OUTSIDE);
    }

    private static void state() {
        OrderRows2 x = withOrder(3, 9);
        x.withdraw(1, 5);
        check.due("again", x.withdraw(1, 6), Check.STATE);
        check.due("the clock is set all the same", x.tick(5), Check.OUTSIDE);
        check.due("over from where it was", x.effective(1, 0, 0, 5), 1);
        OrderRows2 y = withOrder(3, 9);
        y.proof(1, false, 5);
        check.due("behind a bad proof", y.withdraw(1, 5), Check.STATE);
        OrderRows2 z = withOrder(3, 30);
        check.due("it lapses by that very call", z.withdraw(1, 15), Check.STATE);
        check.due("over from day 15 on", z.effective(1, 0, 0, 14), 2);
        OrderRows2 late = withOrder(3, 30);
        check.due("14 days behind", late.withdraw(1, 14), 17);
    }
}
