/**
 * The document's REFUSALS: of several the first of UNKNOWN, OUTSIDE, STATE and ROOM, for every pair of
 * them that a call has; and "a call that is refused changes nothing (but the clock, as proof() tells)".
 */
public final class TermsRefusalsTest {
    private static final Check check = new Check();
    private static final int NO_ORDER = 5, PROVED = 1, WITHDRAWN = 2, OPEN = 3, HELD = 4;

    public static void main(String[] args) {
        orderUnknownBeforeOutside();
        orderUnknownBeforeRoom();
        orderOutsideBeforeRoom();
        proofInTheirOrder();
        withdrawInTheirOrder();
        extendInTheirOrder();
        effectiveUnknownBeforeOutside();
        toldUnknownBeforeNone();
        unknownChangesNothing();
        outsideChangesNothing();
        stateChangesTheClockAlone();
        stateOfExtendChangesNothing();
        lapsesAlsoWhenItIsState();
        roomChangesNothing();
        check.end();
    }

    /** Orders 1 to 4: proved, withdrawn on day 3, open, and held; the clock is 3. */
    private static OrderRows2 some() {
        OrderRows2 x = new OrderRows2();
        x.order(0, 1, 7, 2, 0, 100);
        x.order(0, 3, 7, 4, 0, 100);
        x.order(0, 5, 7, 6, 0, 100);
        x.order(3, 7, 7, 0, 0, 100);
        check.due("proof of 1", x.proof(PROVED, true, 2), 1);
        check.due("withdraw 2", x.withdraw(WITHDRAWN, 3), 98);
        return x;
    }

    /** Every answer that the state of 'some' gives, asked without changing it. */
    private static void isAsBefore(String after, OrderRows2 x) {
        check.due(after + ": the clock is not above 3", x.tick(3), 0);
        check.due(after + ": the clock is not below 3", x.tick(2), Check.OUTSIDE);
        ordersAreAsBefore(after, x);
        check.due(after + ": told on the clock's day", x.told(7, 0), PROVED);
        check.due(after + ": one told alone", x.told(7, 1), 0);
        check.due(after + ": no ring", x.ring(0), 0);
        check.due(after + ": no fifth order", x.extend(NO_ORDER, 200), Check.UNKNOWN);
        check.due(after + ": the fifth number is free", x.order(6, 9, 0, 0, 0, 5), 5);
    }

    private static void ordersAreAsBefore(String after, OrderRows2 x) {
        check.due(after + ": 1 until 100", x.effective(1, 7, 0, 100), 2);
        check.due(after + ": 1 not longer", x.effective(1, 7, 0, 101), 1);
        check.due(after + ": 2 below day 3", x.effective(3, 7, 0, 2), 4);
        check.due(after + ": 2 on day 3", x.effective(3, 7, 0, 3), 3);
        check.due(after + ": 3 until 100", x.effective(5, 7, 0, 100), 6);
        check.due(after + ": 3 not longer", x.effective(5, 7, 0, 101), 5);
        check.due(after + ": 4 until 100", x.effective(7, 7, 0, 100), 0);
        check.due(after + ": 4 not longer", x.effective(7, 7, 0, 101), 7);
    }

    private static OrderRows2 full() {
        OrderRows2 x = new OrderRows2();
        for (int n = 1; n <= 200; n++) {
            x.order(0, 1, 0, 2, 0, 9);
        }
        check.due("full", x.order(0, 1, 0, 2, 0, 9), Check.ROOM);
        return x;
    }

    private static void orderUnknownBeforeOutside() {
        OrderRows2 x = some();
        unknownWith(x, "kind 9", 9, 2, 0, 9);
        unknownWith(x, "kind -1", -1, 2, 0, 9);
        unknownWith(x, "from -1", 0, 2, -1, 9);
        unknownWith(x, "until 20001", 0, 2, 0, 20001);
        unknownWith(x, "until before from", 0, 2, 9, 8);
        unknownWith(x, "to itself", 0, 1, 0, 9);
        for (int to : new int[] {0, 100}) {
            check.due("to " + to + ", from -1", x.order(0, 1, 0, to, -1, 9), Check.UNKNOWN);
            check.due("to " + to + ", until 20001", x.order(1, 1, 0, to, 0, 20001), Check.UNKNOWN);
            check.due("to " + to + ", until before from", x.order(2, 1, 0, to, 9, 8), Check.UNKNOWN);
            check.due("to and entry " + to, x.order(0, to, 0, to, 0, 9), Check.UNKNOWN);
        }
        isAsBefore("order refused", x);
    }

    /** With that OUTSIDE number, for an entry that there is not, and then for a person that there is not. */
    private static void unknownWith(OrderRows2 x, String what, int kind, int to, long from, long until) {
        check.due(what, x.order(kind, 1, 0, to, from, until), Check.OUTSIDE);
        for (int entry : new int[] {0, 100}) {
            check.due(what + ", entry " + entry, x.order(kind, entry, 0, to, from, until), Check.UNKNOWN);
        }
        for (int who : new int[] {-2, 50}) {
            check.due(what + ", who " + who, x.order(kind, 1, who, to, from, until), Check.UNKNOWN);
        }
    }

    private static void orderUnknownBeforeRoom() {
        OrderRows2 x = full();
        for (int address : new int[] {0, 100}) {
            check.due("entry " + address, x.order(0, address, 0, 2, 0, 9), Check.UNKNOWN);
            check.due("to " + address, x.order(0, 1, 0, address, 0, 9), Check.UNKNOWN);
            check.due("held, to " + address, x.order(3, 1, 0, address, 0, 9), Check.ROOM);
        }
        check.due("who -2", x.order(0, 1, -2, 2, 0, 9), Check.UNKNOWN);
        check.due("who 50", x.order(0, 1, 50, 2, 0, 9), Check.UNKNOWN);
        check.due("who -1", x.order(0, 1, -1, 2, 0, 9), Check.ROOM);
    }

    private static void orderOutsideBeforeRoom() {
        OrderRows2 x = full();
        check.due("kind -1", x.order(-1, 1, 0, 2, 0, 9), Check.OUTSIDE);
        check.due("kind 9", x.order(9, 1, 0, 2, 0, 9), Check.OUTSIDE);
        check.due("from -1", x.order(0, 1, 0, 2, -1, 9), Check.OUTSIDE);
        check.due("until before from", x.order(0, 1, 0, 2, 9, 8), Check.OUTSIDE);
        check.due("until 20001", x.order(0, 1, 0, 2, 0, 20001), Check.OUTSIDE);
        check.due("to itself", x.order(0, 1, 0, 1, 0, 9), Check.OUTSIDE);
        check.due("held, to itself", x.order(3, 1, 0, 1, 0, 9), Check.ROOM);
    }

    private static void proofInTheirOrder() {
        for (boolean good : new boolean[] {true, false}) {
            OrderRows2 x = some();
            for (long t : new long[] {2, -1, 20001}) {
                check.due("no order, t " + t, x.proof(NO_ORDER, good, t), Check.UNKNOWN);
                check.due("proved, t " + t, x.proof(PROVED, good, t), Check.OUTSIDE);
                check.due("withdrawn, t " + t, x.proof(WITHDRAWN, good, t), Check.OUTSIDE);
                check.due("open, t " + t, x.proof(OPEN, good, t), Check.OUTSIDE);
            }
            check.due("no order", x.proof(NO_ORDER, good, 3), Check.UNKNOWN);
            check.due("proved", x.proof(PROVED, good, 3), Check.STATE);
            check.due("withdrawn", x.proof(WITHDRAWN, good, 3), Check.STATE);
            isAsBefore("proof refused", x);
            check.due("open", x.proof(OPEN, good, 3), good ? 1 : 0);
        }
    }

    private static void withdrawInTheirOrder() {
        OrderRows2 x = some();
        for (long t : new long[] {2, -1, 20001}) {
            check.due("no order, t " + t, x.withdraw(NO_ORDER, t), Check.UNKNOWN);
            check.due("withdrawn, t " + t, x.withdraw(WITHDRAWN, t), Check.OUTSIDE);
            check.due("open, t " + t, x.withdraw(OPEN, t), Check.OUTSIDE);
        }
        check.due("withdrawn", x.withdraw(WITHDRAWN, 3), Check.STATE);
        isAsBefore("withdraw refused", x);
        check.due("a proved one is not refused", x.withdraw(PROVED, 3), 98);
        check.due("nor an open one", x.withdraw(OPEN, 3), 98);
    }

    private static void extendInTheirOrder() {
        OrderRows2 x = some();
        for (long until : new long[] {-1, 20001}) {
            check.due("no order, until " + until, x.extend(NO_ORDER, until), Check.UNKNOWN);
            check.due("withdrawn, until " + until, x.extend(WITHDRAWN, until), Check.OUTSIDE);
            check.due("open, until " + until, x.extend(OPEN, until), Check.OUTSIDE);
        }
        for (long until : new long[] {0, 100, 101, 20000}) {
            check.due("no order, until " + until, x.extend(NO_ORDER, until), Check.UNKNOWN);
            check.due("withdrawn, until " + until, x.extend(WITHDRAWN, until), Check.STATE);
        }
        isAsBefore("extend refused", x);
        check.due("a proved one is not refused", x.extend(PROVED, 101), 1);
        check.due("nor an open one", x.extend(OPEN, 101), 1);
    }

    private static void effectiveUnknownBeforeOutside() {
        OrderRows2 x = some();
        for (int entry : new int[] {0, 1, 99, 100}) {
            for (int who : new int[] {-1, 0, 49, 50}) {
                boolean known = (entry == 1 || entry == 99) && (who == 0 || who == 49);
                int due = known ? Check.OUTSIDE : Check.UNKNOWN;
                check.due("class -1, " + entry + ", " + who, x.effective(entry, who, -1, 0), due);
                check.due("class 3, " + entry + ", " + who, x.effective(entry, who, 3, 0), due);
                check.due("day -1, " + entry + ", " + who, x.effective(entry, who, 0, -1), due);
                check.due("day 20001, " + entry + ", " + who, x.effective(entry, who, 0, 20001), due);
            }
        }
        isAsBefore("effective refused", x);
    }

    /** told() and ring() refuse no i: there is none such. */
    private static void toldUnknownBeforeNone() {
        OrderRows2 x = some();
        for (int i : new int[] {-1, 0, 1, Integer.MIN_VALUE, Integer.MAX_VALUE}) {
            check.due("told(-1, " + i + ")", x.told(-1, i), Check.UNKNOWN);
            check.due("told(50, " + i + ")", x.told(50, i), Check.UNKNOWN);
            check.due("told(7, " + i + ")", x.told(7, i), i == 0 ? PROVED : 0);
            check.due("ring(" + i + ")", x.ring(i), 0);
        }
        isAsBefore("told refused", x);
    }

    private static void unknownChangesNothing() {
        OrderRows2 x = some();
        check.due("proof", x.proof(NO_ORDER, true, 50), Check.UNKNOWN);
        check.due("bad proof", x.proof(0, false, 50), Check.UNKNOWN);
        check.due("withdraw", x.withdraw(-1, 50), Check.UNKNOWN);
        check.due("extend", x.extend(NO_ORDER, 200), Check.UNKNOWN);
        check.due("order", x.order(3, 1, 50, 0, 0, 9), Check.UNKNOWN);
        isAsBefore("UNKNOWN", x);
    }

    private static void outsideChangesNothing() {
        OrderRows2 x = some();
        for (long t : new long[] {2, -1, 20001, (1L << 32) + 50}) {
            check.due("tick(" + t + ")", x.tick(t), Check.OUTSIDE);
            check.due("proof on " + t, x.proof(OPEN, true, t), Check.OUTSIDE);
            check.due("bad proof on " + t, x.proof(OPEN, false, t), Check.OUTSIDE);
            check.due("withdraw on " + t, x.withdraw(OPEN, t), Check.OUTSIDE);
        }
        check.due("extend", x.extend(OPEN, 20001), Check.OUTSIDE);
        check.due("order", x.order(3, 5, 7, 0, 0, 20001), Check.OUTSIDE);
        check.due("rank 101", x.rank(0, 101), Check.OUTSIDE);
        check.due("rank -1", x.rank(0, -1), Check.OUTSIDE);
        check.due("the rank is 0 still", x.rank(0, 0), 0);
        isAsBefore("OUTSIDE", x);
        check.due("still open", x.proof(OPEN, true, 3), 1);
    }

    /** "The clock is set first, also when it is STATE"; "it is over; the clock is set all the same" */
    private static void stateChangesTheClockAlone() {
        OrderRows2 x = some();
        check.due("proof of a proved one", x.proof(PROVED, false, 5), Check.STATE);
        check.due("the clock is 5", x.tick(4), Check.OUTSIDE);
        check.due("proof of one that is over", x.proof(WITHDRAWN, true, 7), Check.STATE);
        check.due("the clock is 7", x.tick(6), Check.OUTSIDE);
        check.due("withdraw one that is over", x.withdraw(WITHDRAWN, 9), Check.STATE);
        check.due("the clock is 9", x.tick(8), Check.OUTSIDE);
        check.due("and not above", x.tick(9), 0);
        ordersAreAsBefore("STATE", x);
        check.due("still proved", x.told(7, 0), PROVED);
        check.due("still over", x.extend(WITHDRAWN, 200), Check.STATE);
    }

    private static void stateOfExtendChangesNothing() {
        OrderRows2 x = some();
        check.due("extend", x.extend(WITHDRAWN, 200), Check.STATE);
        isAsBefore("STATE of extend", x);
        OrderRows2 y = new OrderRows2();
        y.order(0, 1, 0, 2, 0, 5);
        y.tick(15);
        check.due("extend a lapsed one", y.extend(1, 14), Check.STATE);
        check.due("its span is as before", y.effective(1, 0, 0, 6), 1);
        check.due("until its last day", y.effective(1, 0, 0, 5), 2);
    }

    /** A clock that is set by a refused call is set: what lapses by it has lapsed. */
    private static void lapsesAlsoWhenItIsState() {
        for (int call = 0; call < 3; call++) {
            OrderRows2 x = some();
            check.due("STATE", call == 0 ? x.proof(PROVED, true, 15)
                    : call == 1 ? x.proof(OPEN, true, 15) : x.withdraw(OPEN, 15), Check.STATE);
            check.due("3 is over", x.extend(OPEN, 200), Check.STATE);
            check.due("4 is over", x.extend(HELD, 200), Check.STATE);
            check.due("day 14", x.effective(7, 7, 0, 14), 0);
            check.due("day 15", x.effective(7, 7, 0, 15), 7);
            check.due("none left to lapse", x.tick(16), 0);
        }
    }

    private static void roomChangesNothing() {
        OrderRows2 x = full();
        check.due("held, there", x.order(3, 1, 0, 0, 0, 9), Check.ROOM);
        check.due("order 200 decides", x.effective(1, 0, 0, 0), 2);
        check.due("held, elsewhere", x.order(3, 5, 0, 0, 0, 9), Check.ROOM);
        check.due("none elsewhere", x.effective(5, 0, 0, 0), 5);
        check.due("all 200 lapse, no more", x.tick(15), 200);
    }
}
