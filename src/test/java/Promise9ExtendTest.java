/** Promise 9: extend. */
public final class Promise9ExtendTest {
    private static final Check check = new Check();

    public static void main(String[] args) {
        later();
        untilTheLastDay();
        inForceAgain();
        notLater();
        behindItsSpan();
        refusals();
        over();
        check.end();
    }

    private static OrderRows2 withOrder() {
        OrderRows2 x = new OrderRows2();
        x.order(0, 1, 0, 2, 3, 9);
        return x;
    }

    private static void later() {
        OrderRows2 x = withOrder();
        check.due("extend(1, 10)", x.extend(1, 10), 1);
        check.due("day 10", x.effective(1, 0, 0, 10), 2);
        check.due("day 11", x.effective(1, 0, 0, 11), 1);
        check.due("extend(1, 20000)", x.extend(1, 20000), 1);
        check.due("day 20000", x.effective(1, 0, 0, 20000), 2);
        check.due("day 2", x.effective(1, 0, 0, 2), 1);
        check.due("extended, not proved: it lapses", x.tick(15), 1);
        OrderRows2 y = withOrder();
        y.proof(1, true, 1);
        check.due("a proved one", y.extend(1, 30), 1);
        y.tick(30);
        check.due("told", y.told(0, 0), 1);
    }

    private static void untilTheLastDay() {
        OrderRows2 x = withOrder();
        check.due("until 19999", x.extend(1, 19999), 1);
        check.due("day 20000", x.effective(1, 0, 0, 20000), 1);
        check.due("until 20000", x.extend(1, 20000), 1);
        check.due("until 20000 again", x.extend(1, 20000), 0);
        check.due("until 20001", x.extend(1, 20001), Check.OUTSIDE);
        check.due("day 20000", x.effective(1, 0, 0, 20000), 2);
        check.due("all its days", x.withdraw(1, 0), 19998);
    }

    /** The days between the old last day and the new one are in force, and no day before FROM. */
    private static void inForceAgain() {
        OrderRows2 x = withOrder();
        x.tick(11);
        x.extend(1, 12);
        for (int day = 0; day <= 13; day++) {
            check.due("day " + day, x.effective(1, 0, 0, day), day >= 3 && day <= 12 ? 2 : 1);
        }
        check.due("withdrawn on 11", x.withdraw(1, 11), 2);
    }

    private static void notLater() {
        OrderRows2 x = withOrder();
        for (long until : new long[] {9, 8, 3, 2, 0}) {
            check.due("extend(1, " + until + ")", x.extend(1, until), 0);
        }
        check.due("day 9", x.effective(1, 0, 0, 9), 2);
        check.due("day 10", x.effective(1, 0, 0, 10), 1);
        x.extend(1, 12);
        check.due("the day that it has by now", x.extend(1, 12), 0);
        check.due("between the two", x.extend(1, 10), 0);
        check.due("day 12", x.effective(1, 0, 0, 12), 2);
    }

    private static void behindItsSpan() {
        OrderRows2 x = withOrder();
        x.tick(12);
        check.due("its span is behind, it is not over", x.extend(1, 11), 1);
        check.due("day 11", x.effective(1, 0, 0, 11), 2);
        check.due("extend(1, 14)", x.extend(1, 14), 1);
        check.due("14 days behind", x.proof(1, true, 14), 1);
        check.due("told", x.told(0, 0), 1);
    }

    private static void refusals() {
        OrderRows2 x = withOrder();
        for (int order : new int[] {0, 2, -1, 201, Integer.MIN_VALUE, Integer.MAX_VALUE}) {
            check.due("order " + order, x.extend(order, 20), Check.UNKNOWN);
            check.due("UNKNOWN before OUTSIDE", x.extend(order, 20001), Check.UNKNOWN);
        }
        for (long until : new long[] {-1, 20001, Long.MIN_VALUE, Long.MAX_VALUE, (1L << 32) + 10}) {
            check.due("until " + until, x.extend(1, until), Check.OUTSIDE);
        }
        check.due("unchanged", x.effective(1, 0, 0, 10), 1);
        x.withdraw(1, 4);
        check.due("OUTSIDE before STATE", x.extend(1, -1), Check.OUTSIDE);
        check.due("OUTSIDE before STATE", x.extend(1, 20001), Check.OUTSIDE);
    }

    private static void over() {
        OrderRows2 x = withOrder();
        x.withdraw(1, 4);
        check.due("withdrawn", x.extend(1, 20), Check.STATE);
        check.due("STATE before 0", x.extend(1, 5), Check.STATE);
        OrderRows2 y = withOrder();
        y.proof(1, false, 4);
        check.due("a bad proof", y.extend(1, 20), Check.STATE);
        OrderRows2 z = withOrder();
        z.tick(14);
        check.due("not lapsed yet", z.extend(1, 20), 1);
        z.tick(15);
        check.due("lapsed", z.extend(1, 30), Check.STATE);
        check.due("it stays over", z.effective(1, 0, 0, 15), 1);
    }
}
