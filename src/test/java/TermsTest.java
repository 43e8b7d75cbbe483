/** The document's first lines and its Terms: for each sentence that names a boundary, a test of its own. */
public final class TermsTest {
    private static final int LAST_DAY = 20000;
    private static final long WRAP = 1L << 32;
    private static final long[] NO_DAYS = {-1, 20001, Integer.MIN_VALUE, Integer.MAX_VALUE, WRAP, WRAP + 5,
        -WRAP, -WRAP + 5, Long.MIN_VALUE, Long.MIN_VALUE + 5, Long.MAX_VALUE};
    private static final int[] NO_ADDRESSES = {0, 100, -1, -99, 256 + 1, 65536 + 1, Integer.MIN_VALUE,
        Integer.MIN_VALUE + 1, Integer.MAX_VALUE};
    private static final int[] NO_ORDERS = {0, -1, -200, 201, 256 + 1, 65536 + 1, Integer.MIN_VALUE,
        Integer.MIN_VALUE + 1, Integer.MAX_VALUE};
    private static final Check check = new Check();

    public static void main(String[] args) {
        usedFor512Calls();
        daysAre0To20000();
        clockIs0AtFirst();
        eachCallWithATSetsTheClock();
        notBelowTheClock();
        addressesAre1To99();
        personsAre0To49();
        classesAre0To2();
        ordersAre1AndUpwards();
        at200Orders();
        kindsAre0To8();
        kindByThreeIsWhatIsDone();
        kindModuloThreeIsTheClass();
        aPersonOrAll();
        fromAndUntilIncluded();
        provedAtMost14DaysBehind();
        lapsesBehindIts14Days();
        lapsesOnlyIfNotProved();
        lapsesOnlyIfNotOver();
        overFromTheDayBehindThese();
        provedAndLapsingOnTheLastDays();
        badProofOverFromTheClocksDay();
        withdrawnOverFromTheClocksDay();
        inForceFromUntilAndBelowOver();
        check.end();
    }

    private static OrderRows2 withOrder(long from, long until) {
        OrderRows2 x = new OrderRows2();
        check.due("order 1", x.order(0, 1, 0, 2, from, until), 1);
        return x;
    }

    /** "An object is used for at most 512 calls": the last of them is answered as the first. */
    private static void usedFor512Calls() {
        OrderRows2 x = new OrderRows2();
        for (int n = 1; n <= 200; n++) {
            check.due("call " + n, x.order(0, 1, n % 50, 2, 0, 9), n);
        }
        for (int n = 1; n <= 200; n++) {
            check.due("call " + (200 + n), x.proof(n, true, 0), 1);
        }
        for (int n = 401; n <= 511; n++) {
            check.due("call " + n, x.told(n % 50, 3), n % 50 == 0 ? 200 : n % 50 + 150);
        }
        check.due("call 512", x.withdraw(200, 4), 6);
    }

    /** "DAYS are 0 .. 20000", in every place where a day is told. */
    private static void daysAre0To20000() {
        OrderRows2 x = withOrder(0, 0);
        check.due("both day 0", x.order(3, 5, 0, 0, 0, 0), 2);
        check.due("both day 20000", x.order(3, 5, 0, 0, LAST_DAY, LAST_DAY), 3);
        check.due("effective on day 0", x.effective(5, 0, 0, 0), 0);
        check.due("effective on day 1", x.effective(5, 0, 0, 1), 5);
        check.due("effective on day 19999", x.effective(5, 0, 0, 19999), 5);
        check.due("effective on day 20000", x.effective(5, 0, 0, LAST_DAY), 0);
        for (long day : NO_DAYS) {
            check.due("from " + day, x.order(3, 5, 0, 0, day, LAST_DAY), Check.OUTSIDE);
            check.due("until " + day, x.order(3, 5, 0, 0, 0, day), Check.OUTSIDE);
            check.due("from and until " + day, x.order(3, 5, 0, 0, day, day), Check.OUTSIDE);
            check.due("effective, day " + day, x.effective(5, 0, 0, day), Check.OUTSIDE);
            check.due("extend until " + day, x.extend(1, day), Check.OUTSIDE);
            check.due("tick(" + day + ")", x.tick(day), Check.OUTSIDE);
            check.due("proof on " + day, x.proof(1, true, day), Check.OUTSIDE);
            check.due("withdraw on " + day, x.withdraw(1, day), Check.OUTSIDE);
        }
        check.due("nothing was changed", x.proof(1, true, 0), 1);
        check.due("extend until 0", x.extend(1, 0), 0);
        check.due("extend until 20000", x.extend(1, LAST_DAY), 1);
        check.due("tick(20000)", x.tick(LAST_DAY), 2);
        check.due("withdraw on 20000", x.withdraw(1, LAST_DAY), 1);
        check.due("made on 20000", x.order(0, 1, 0, 2, 0, LAST_DAY), 4);
        check.due("proof on 20000", x.proof(4, true, LAST_DAY), 1);
    }

    /** "the CLOCK is a day, 0 at first" */
    private static void clockIs0AtFirst() {
        check.due("tick(0)", new OrderRows2().tick(0), 0);
        check.due("told on day 0", toldAfterProof(withOrder(0, 0), 0), 1);
        check.due("not told on day 0", toldAfterProof(withOrder(1, 1), 0), 0);
    }

    private static int toldAfterProof(OrderRows2 x, long t) {
        check.due("proof on " + t, x.proof(1, true, t), 1);
        return x.told(0, 0);
    }

    /** "each call with a t sets it": tick, proof and withdraw, and no other call. */
    private static void eachCallWithATSetsTheClock() {
        OrderRows2 x = withOrder(0, 9);
        x.order(0, 1, 0, 2, 0, 9);
        x.tick(3);
        clockIs(x, 3);
        x.proof(1, true, 5);
        clockIs(x, 5);
        x.withdraw(1, 7);
        clockIs(x, 7);
        x.proof(2, false, 8);
        clockIs(x, 8);
        x.order(0, 3, 0, 4, 12, 30);
        x.extend(3, 40);
        x.effective(3, 0, 0, 20);
        x.rank(0, 9);
        x.told(0, 10);
        x.ring(11);
        clockIs(x, 8);
    }

    /** The day below it is refused, its own is not. */
    private static void clockIs(OrderRows2 x, long day) {
        check.due("the clock is not above " + day, x.tick(day), 0);
        check.due("the clock is not below " + day, x.tick(day - 1), Check.OUTSIDE);
    }

    /** "(not below it, else OUTSIDE)", for each of these calls. */
    private static void notBelowTheClock() {
        OrderRows2 x = withOrder(0, 30);
        x.order(0, 3, 0, 4, 0, 30);
        x.tick(6);
        for (long t : new long[] {5, 1, 0}) {
            check.due("tick(" + t + ")", x.tick(t), Check.OUTSIDE);
            check.due("proof on " + t, x.proof(1, true, t), Check.OUTSIDE);
            check.due("bad proof on " + t, x.proof(1, false, t), Check.OUTSIDE);
            check.due("withdraw on " + t, x.withdraw(1, t), Check.OUTSIDE);
        }
        clockIs(x, 6);
        check.due("the clock's own day: tick", x.tick(6), 0);
        check.due("the clock's own day: proof", x.proof(1, true, 6), 1);
        check.due("the clock's own day: bad proof", x.proof(2, false, 6), 0);
        check.due("the clock's own day: withdraw", x.withdraw(1, 6), 25);
    }

    /** "ADDRESSES are 1 .. 99" */
    private static void addressesAre1To99() {
        OrderRows2 x = new OrderRows2();
        check.due("from the first on to the last", x.order(0, 1, -1, 99, 0, 9), 1);
        check.due("effective at the first", x.effective(1, 0, 0, 0), 99);
        check.due("effective at the last", x.effective(99, 0, 0, 0), 99);
        check.due("from the last on to the first", x.order(1, 99, -1, 1, 0, 9), 2);
        check.due("effective at the last", x.effective(99, 0, 1, 0), 1);
        for (int address : NO_ADDRESSES) {
            check.due("entry " + address, x.order(0, address, 0, 2, 0, 9), Check.UNKNOWN);
            check.due("to " + address, x.order(0, 2, 0, address, 0, 9), Check.UNKNOWN);
            check.due("effective at " + address, x.effective(address, 0, 0, 0), Check.UNKNOWN);
        }
        check.due("the next number", x.order(0, 2, 0, 3, 0, 9), 3);
    }

    /** "PERSONS 0 .. 49" */
    private static void personsAre0To49() {
        for (int person : new int[] {0, 49}) {
            OrderRows2 x = new OrderRows2();
            check.due("an order for " + person, x.order(0, 1, person, 2, 0, 9), 1);
            x.proof(1, true, 0);
            check.due("told(" + person + ")", x.told(person, 0), 1);
            check.due("told(" + (49 - person) + ")", x.told(49 - person, 0), 0);
            check.due("effective for " + person, x.effective(1, person, 0, 0), 2);
            check.due("effective for " + (49 - person), x.effective(1, 49 - person, 0, 0), 1);
        }
        OrderRows2 x = new OrderRows2();
        for (int person : new int[] {-2, 50, -49, 256, 65536, Integer.MIN_VALUE, Integer.MAX_VALUE}) {
            check.due("an order for " + person, x.order(0, 1, person, 2, 0, 9), Check.UNKNOWN);
            check.due("told(" + person + ")", x.told(person, 0), Check.UNKNOWN);
            check.due("effective for " + person, x.effective(1, person, 0, 0), Check.UNKNOWN);
        }
    }

    /** "CLASSES of items 0, 1, 2" */
    private static void classesAre0To2() {
        OrderRows2 x = new OrderRows2();
        for (int kind = 0; kind <= 8; kind++) {
            x.order(kind, 1, -1, 2, 0, 9);
        }
        for (int itemClass = 0; itemClass <= 2; itemClass++) {
            check.due("class " + itemClass, x.effective(1, 0, itemClass, 0), -2);
        }
        for (int itemClass : new int[] {-1, -2, -3, 3, 4, 5, 6, 8, Integer.MIN_VALUE, Integer.MAX_VALUE}) {
            check.due("class " + itemClass, x.effective(1, 0, itemClass, 0), Check.OUTSIDE);
        }
    }

    /** "ORDERS 1, 2, ..": refused ones take no number, and there is no order 0 and none above the last. */
    private static void ordersAre1AndUpwards() {
        OrderRows2 x = new OrderRows2();
        check.due("the first", x.order(0, 1, 0, 2, 0, 9), 1);
        check.due("UNKNOWN", x.order(0, 0, 0, 2, 0, 9), Check.UNKNOWN);
        check.due("OUTSIDE", x.order(9, 1, 0, 2, 0, 9), Check.OUTSIDE);
        check.due("the second", x.order(0, 3, 0, 4, 0, 9), 2);
        check.due("extend(3)", x.extend(3, 10), Check.UNKNOWN);
        for (int number : NO_ORDERS) {
            check.due("extend " + number, x.extend(number, 10), Check.UNKNOWN);
            check.due("proof of " + number, x.proof(number, true, 1), Check.UNKNOWN);
            check.due("bad proof of " + number, x.proof(number, false, 1), Check.UNKNOWN);
            check.due("withdraw " + number, x.withdraw(number, 1), Check.UNKNOWN);
        }
        clockIs(x, 0);
        check.due("the first is as before", x.withdraw(1, 0), 10);
        check.due("the second is as before", x.withdraw(2, 0), 10);
        check.due("the third", x.order(0, 1, 0, 2, 0, 9), 3);
    }

    /** "(200 at most)" */
    private static void at200Orders() {
        OrderRows2 x = new OrderRows2();
        for (int n = 1; n <= 199; n++) {
            x.order(0, 1, 0, 2, 0, 9);
        }
        check.due("no order 200 yet", x.extend(200, 10), Check.UNKNOWN);
        check.due("order 200", x.order(3, 1, 0, 0, 0, 9), 200);
        check.due("ROOM", x.order(6, 1, 0, 0, 0, 9), Check.ROOM);
        check.due("the refused one is not in force", x.effective(1, 0, 0, 0), 0);
        check.due("no order 201", x.extend(201, 10), Check.UNKNOWN);
        check.due("order 1 stands", x.extend(1, 10), 1);
        check.due("order 200 stands", x.extend(200, 10), 1);
        check.due("order 200 can be proved", x.proof(200, true, 0), 1);
        check.due("order 199 withdrawn", x.withdraw(199, 0), 10);
        check.due("ROOM all the same", x.order(6, 1, 0, 0, 0, 9), Check.ROOM);
        check.due("all but two lapse", x.tick(15), 198);
        check.due("ROOM when all but one are over", x.order(6, 1, 0, 0, 0, 9), Check.ROOM);
    }

    /** "a KIND 0 .. 8" */
    private static void kindsAre0To8() {
        OrderRows2 x = new OrderRows2();
        check.due("kind 0", x.order(0, 1, 0, 2, 0, 9), 1);
        check.due("kind 8", x.order(8, 1, 0, 2, 0, 9), 2);
        check.due("rank of 0", x.rank(0, 1), 0);
        check.due("rank of 8", x.rank(8, 1), 0);
        for (int kind : new int[] {-1, -2, -3, -9, 9, 10, 11, 256, 65536, Integer.MIN_VALUE, Integer.MAX_VALUE}) {
            check.due("kind " + kind, x.order(kind, 1, 0, 2, 0, 9), Check.OUTSIDE);
            check.due("rank of " + kind, x.rank(kind, 1), Check.OUTSIDE);
        }
    }

    /** "kind / 3 (cut) is what is done: 0 SENT ON to another address, 1 HELD, 2 REFUSED" */
    private static void kindByThreeIsWhatIsDone() {
        int[] due = {2, 2, 2, 0, 0, 0, -2, -2, -2};
        for (int kind = 0; kind <= 8; kind++) {
            OrderRows2 x = new OrderRows2();
            x.order(kind, 1, 0, 2, 0, 9);
            check.due("kind " + kind, x.effective(1, 0, kind % 3, 0), due[kind]);
        }
    }

    /** "kind modulo 3 is the class for which" */
    private static void kindModuloThreeIsTheClass() {
        for (int kind = 0; kind <= 8; kind++) {
            OrderRows2 x = new OrderRows2();
            x.order(kind, 1, 0, 2, 0, 9);
            check.due("kind " + kind + ", next class", x.effective(1, 0, (kind + 1) % 3, 0), 1);
            check.due("kind " + kind + ", class behind it", x.effective(1, 0, (kind + 2) % 3, 0), 1);
        }
    }

    /** "Each is for an address and a person (or all, -1)" */
    private static void aPersonOrAll() {
        OrderRows2 x = new OrderRows2();
        check.due("for all", x.order(0, 1, -1, 2, 0, 9), 1);
        check.due("for person 0 alone", x.order(0, 3, 0, 4, 0, 9), 2);
        for (int person = 0; person <= 49; person++) {
            check.due("all: " + person, x.effective(1, person, 0, 0), 2);
            check.due("0 alone: " + person, x.effective(3, person, 0, 0), person == 0 ? 4 : 3);
        }
        check.due("-1 is no person that can be asked for", x.effective(1, -1, 0, 0), Check.UNKNOWN);
        check.due("-1 is no person that can be told", x.told(-1, 0), Check.UNKNOWN);
        for (int address = 2; address <= 99; address++) {
            check.due("at " + address, x.effective(address, 1, 0, 0), address);
        }
    }

    /** "FROM a day UNTIL a day, both included" */
    private static void fromAndUntilIncluded() {
        OrderRows2 x = withOrder(7, 9);
        int[] due = {1, 2, 2, 2, 1};
        for (int day = 6; day <= 10; day++) {
            check.due("day " + day, x.effective(1, 0, 0, day), due[day - 6]);
        }
        OrderRows2 y = withOrder(7, 7);
        check.due("one day: before", y.effective(1, 0, 0, 6), 1);
        check.due("one day", y.effective(1, 0, 0, 7), 2);
        check.due("one day: behind", y.effective(1, 0, 0, 8), 1);
    }

    /** "It must be PROVED: 14 days at most behind that on which it was made." */
    private static void provedAtMost14DaysBehind() {
        for (int made : new int[] {0, 1, 500, 19985}) {
            for (int behind : new int[] {0, 1, 13, 14}) {
                check.due("made " + made + ", proved " + behind + " behind",
                        madeOn(made).proof(1, true, made + behind), 1);
            }
            check.due("made " + made + ", proved 15 behind", madeOn(made).proof(1, true, made + 15), Check.STATE);
            check.due("made " + made + ", bad 15 behind", madeOn(made).proof(1, false, made + 15), Check.STATE);
            check.due("made " + made + ", proved on the last day", madeOn(made).proof(1, true, LAST_DAY), Check.STATE);
        }
    }

    private static OrderRows2 madeOn(int made) {
        OrderRows2 x = new OrderRows2();
        x.tick(made);
        check.due("made on " + made, x.order(0, 1, 0, 2, 0, LAST_DAY), 1);
        return x;
    }

    /** "When the clock is set to a later day, each order .. whose 14 days are behind it, is OVER" */
    private static void lapsesBehindIts14Days() {
        for (int made : new int[] {0, 1, 500, 19985}) {
            check.due("made " + made + ", to day 14", madeOn(made).tick(made + 14), 0);
            check.due("made " + made + ", to day 15", madeOn(made).tick(made + 15), 1);
            check.due("made " + made + ", to the last day", madeOn(made).tick(LAST_DAY), 1);
            OrderRows2 x = madeOn(made);
            check.due("still going on", x.extend(1, LAST_DAY), 0);
            x.tick(made + 14);
            check.due("day 14: not over", x.extend(1, LAST_DAY), 0);
            x.tick(made + 15);
            check.due("day 15: over", x.extend(1, LAST_DAY), Check.STATE);
        }
    }

    /** "each order that was not proved": neither the last day of the 14 nor the day of making is too late. */
    private static void lapsesOnlyIfNotProved() {
        for (int proved : new int[] {0, 14}) {
            OrderRows2 x = madeOn(0);
            x.order(0, 3, 0, 4, 0, LAST_DAY);
            x.proof(1, true, proved);
            check.due("only the other one lapses", x.tick(15), 1);
            check.due("the proved one stands", x.effective(1, 0, 0, LAST_DAY), 2);
            check.due("the other one does not", x.effective(3, 0, 0, 15), 3);
        }
    }

    /** "and is not over": what a bad proof or a withdrawal ended does not lapse, and ends where it did. */
    private static void lapsesOnlyIfNotOver() {
        OrderRows2 x = madeOn(0);
        x.order(0, 3, 0, 4, 0, LAST_DAY);
        x.proof(1, false, 3);
        x.withdraw(2, 4);
        check.due("none lapses", x.tick(15), 0);
        check.due("the bad proof's day", x.effective(1, 0, 0, 3), 1);
        check.due("the withdrawal's day", x.effective(3, 0, 0, 4), 3);
        OrderRows2 y = madeOn(0);
        check.due("lapsed", y.tick(15), 1);
        check.due("it lapses once", y.tick(16), 0);
    }

    /** "is OVER from the day behind these on (LAPSED)", however far the clock goes. */
    private static void overFromTheDayBehindThese() {
        for (int clock : new int[] {115, 116, 5000, LAST_DAY}) {
            OrderRows2 x = madeOn(100);
            x.tick(clock);
            check.due("clock " + clock + ", day 114", x.effective(1, 0, 0, 114), 2);
            check.due("clock " + clock + ", day 115", x.effective(1, 0, 0, 115), 1);
        }
    }

    /** The 14 days of what is made on 19986 or later are never behind the clock. */
    private static void provedAndLapsingOnTheLastDays() {
        for (int made : new int[] {19986, 19999, LAST_DAY}) {
            OrderRows2 x = madeOn(made);
            check.due("made " + made + ", to the last day", x.tick(LAST_DAY), 0);
            check.due("it is in force", x.effective(1, 0, 0, LAST_DAY), 2);
            check.due("it can be proved", x.proof(1, true, LAST_DAY), 1);
            check.due("and told", x.told(0, 0), 1);
        }
        OrderRows2 y = madeOn(19985);
        check.due("made 19985, to the last day", y.tick(LAST_DAY), 1);
        check.due("day 19999", y.effective(1, 0, 0, 19999), 2);
        check.due("day 20000", y.effective(1, 0, 0, LAST_DAY), 1);
    }

    /** "One with a bad proof .. is over from the clock's day on." */
    private static void badProofOverFromTheClocksDay() {
        for (int day : new int[] {0, 1, 14}) {
            OrderRows2 x = madeOn(0);
            check.due("bad on " + day, x.proof(1, false, day), 0);
            isOverFrom(x, day);
        }
        OrderRows2 y = madeOn(LAST_DAY);
        check.due("bad on the last day", y.proof(1, false, LAST_DAY), 0);
        isOverFrom(y, LAST_DAY);
    }

    /** "or withdrawn, is over from the clock's day on" */
    private static void withdrawnOverFromTheClocksDay() {
        for (int day : new int[] {0, 1, 14}) {
            OrderRows2 x = madeOn(0);
            check.due("withdrawn on " + day, x.withdraw(1, day), LAST_DAY + 1 - day);
            isOverFrom(x, day);
        }
        OrderRows2 y = madeOn(0);
        y.proof(1, true, 0);
        check.due("withdrawn on the last day", y.withdraw(1, LAST_DAY), 1);
        isOverFrom(y, LAST_DAY);
    }

    private static void isOverFrom(OrderRows2 x, int day) {
        if (day > 0) {
            check.due("the day before " + day, x.effective(1, 0, 0, day - 1), 2);
        }
        check.due("day " + day, x.effective(1, 0, 0, day), 1);
        check.due("the last day", x.effective(1, 0, 0, LAST_DAY), 1);
        check.due("it is over", x.extend(1, LAST_DAY), Check.STATE);
    }

    /** "It is IN FORCE on a day if that is from FROM to UNTIL and below the day from which it is over." */
    private static void inForceFromUntilAndBelowOver() {
        OrderRows2 x = withOrder(5, 9);
        x.order(0, 3, 0, 4, 5, 9);
        x.order(0, 5, 0, 6, 5, 9);
        x.order(0, 7, 0, 8, 5, 9);
        x.withdraw(1, 4);
        check.due("over before FROM", x.effective(1, 0, 0, 5), 1);
        x.withdraw(2, 5);
        check.due("over on FROM", x.effective(3, 0, 0, 5), 3);
        x.withdraw(3, 9);
        check.due("over on UNTIL: the day before", x.effective(5, 0, 0, 8), 6);
        check.due("over on UNTIL", x.effective(5, 0, 0, 9), 5);
        x.withdraw(4, 10);
        check.due("over behind UNTIL", x.effective(7, 0, 0, 9), 8);
        check.due("behind UNTIL", x.effective(7, 0, 0, 10), 7);
        check.due("below FROM", x.effective(7, 0, 0, 4), 7);
    }
}
