/** Promise 2: order. */
public final class Promise2OrderTest {
    private static final Check check = new Check();
    private static final int LEAST = Integer.MIN_VALUE, MOST = Integer.MAX_VALUE;

    public static void main(String[] args) {
        numbersAndEdges();
        unknown();
        outside();
        unknownBeforeOutside();
        whereToDoesNotMatter();
        room();
        refusedChangesNothing();
        isMadeOnTheClocksDay();
        check.end();
    }

    private static void numbersAndEdges() {
        OrderRows2 x = new OrderRows2();
        for (int kind = 0; kind <= 8; kind++) {
            check.due("kind " + kind, x.order(kind, 1, 0, 2, 0, 5), kind + 1);
        }
        check.due("least numbers", x.order(0, 1, -1, 2, 0, 0), 10);
        check.due("greatest numbers", x.order(8, 99, 49, 99, 20000, 20000), 11);
        check.due("from 99 on to 1", x.order(2, 99, 49, 1, 0, 20000), 12);
        check.due("from 1 on to 99", x.order(2, 1, 0, 99, 0, 20000), 13);
        check.due("the same again", x.order(2, 1, 0, 99, 0, 20000), 14);
        x.tick(100);
        check.due("a span behind the clock", x.order(0, 5, 0, 6, 3, 4), 15);
        check.due("it is in force on that day", x.effective(5, 0, 0, 3), 6);
    }

    private static void unknown() {
        OrderRows2 x = new OrderRows2();
        for (int entry : new int[] {0, 100, -1, LEAST, MOST}) {
            check.due("entry " + entry, x.order(0, entry, 0, 2, 0, 5), Check.UNKNOWN);
            check.due("entry " + entry, x.order(3, entry, 0, 2, 0, 5), Check.UNKNOWN);
        }
        for (int who : new int[] {-2, 50, LEAST, MOST}) {
            check.due("who " + who, x.order(0, 1, who, 2, 0, 5), Check.UNKNOWN);
            check.due("who " + who, x.order(6, 1, who, 2, 0, 5), Check.UNKNOWN);
        }
        for (int to : new int[] {0, 100, -1, LEAST, MOST}) {
            for (int kind = 0; kind <= 2; kind++) {
                check.due("kind " + kind + " to " + to, x.order(kind, 1, 0, to, 0, 5), Check.UNKNOWN);
            }
        }
        check.due("the first order", x.order(0, 1, 0, 2, 0, 5), 1);
    }

    private static void outside() {
        OrderRows2 x = new OrderRows2();
        for (int kind : new int[] {-1, -2, -3, -9, 9, 10, LEAST, MOST}) {
            check.due("kind " + kind, x.order(kind, 1, 0, 2, 0, 5), Check.OUTSIDE);
        }
        // No kind, so nothing is sent on and 'to' does not matter.
        check.due("kind -1 to 0", x.order(-1, 1, 0, 0, 0, 5), Check.OUTSIDE);
        check.due("kind 9 to 0", x.order(9, 1, 0, 0, 0, 5), Check.OUTSIDE);
        check.due("from -1", x.order(0, 1, 0, 2, -1, 5), Check.OUTSIDE);
        check.due("until before from", x.order(0, 1, 0, 2, 5, 4), Check.OUTSIDE);
        check.due("until 20001", x.order(0, 1, 0, 2, 0, 20001), Check.OUTSIDE);
        check.due("from 20001", x.order(0, 1, 0, 2, 20001, 20001), Check.OUTSIDE);
        check.due("both below 0", x.order(3, 1, 0, 2, -5, -1), Check.OUTSIDE);
        check.due("until far above", x.order(0, 1, 0, 2, 0, Long.MAX_VALUE), Check.OUTSIDE);
        check.due("until a day, as an int", x.order(0, 1, 0, 2, 0, (1L << 32) + 5), Check.OUTSIDE);
        check.due("from a day, as an int", x.order(0, 1, 0, 2, -(1L << 32), 5), Check.OUTSIDE);
        check.due("from far below", x.order(0, 1, 0, 2, Long.MIN_VALUE, 5), Check.OUTSIDE);
        check.due("the whole of time", x.order(0, 1, 0, 2, Long.MIN_VALUE, Long.MAX_VALUE), Check.OUTSIDE);
        for (int kind = 0; kind <= 2; kind++) {
            check.due("on to itself, kind " + kind, x.order(kind, 4, 0, 4, 0, 5), Check.OUTSIDE);
        }
        check.due("the first order", x.order(0, 1, 0, 2, 0, 5), 1);
    }

    private static void unknownBeforeOutside() {
        OrderRows2 x = new OrderRows2();
        check.due("entry, kind", x.order(9, 0, 0, 2, 0, 5), Check.UNKNOWN);
        check.due("entry, span", x.order(0, 100, 0, 2, 5, 4), Check.UNKNOWN);
        check.due("who, kind", x.order(-1, 1, 50, 2, 0, 5), Check.UNKNOWN);
        check.due("who, to is entry", x.order(0, 1, -2, 1, 0, 5), Check.UNKNOWN);
        check.due("to, span", x.order(0, 1, 0, 100, 0, 20001), Check.UNKNOWN);
        check.due("entry and to the same", x.order(0, 0, 0, 0, 0, 5), Check.UNKNOWN);
    }

    private static void whereToDoesNotMatter() {
        OrderRows2 x = new OrderRows2();
        int number = 0;
        for (int kind = 3; kind <= 8; kind++) {
            for (int to : new int[] {0, 1, 100, -1, LEAST, MOST}) {
                number++;
                check.due("kind " + kind + " to " + to, x.order(kind, 1, 0, to, 0, 5), number);
            }
        }
    }

    private static void room() {
        OrderRows2 x = new OrderRows2();
        for (int n = 1; n <= 200; n++) {
            check.due("order " + n, x.order(n % 9, 1, -1, 2, 0, 5), n);
        }
        check.due("one more", x.order(0, 1, -1, 2, 0, 5), Check.ROOM);
        check.due("UNKNOWN before ROOM", x.order(0, 0, -1, 2, 0, 5), Check.UNKNOWN);
        check.due("OUTSIDE before ROOM", x.order(9, 1, -1, 2, 0, 5), Check.OUTSIDE);
        check.due("withdraw(200)", x.withdraw(200, 3), 3);
        check.due("tick", x.tick(50), 199);
        check.due("orders that are over keep their room", x.order(0, 1, -1, 2, 0, 5), Check.ROOM);
        check.due("no order 201", x.extend(201, 9), Check.UNKNOWN);
    }

    private static void refusedChangesNothing() {
        OrderRows2 x = new OrderRows2();
        x.order(0, 1, 0, 2, 0, 5);
        x.order(0, 1, 0, 1, 0, 5);
        x.order(0, 1, 0, 3, 4, 3);
        x.order(0, 1, 50, 3, 0, 5);
        check.due("effective", x.effective(1, 0, 0, 4), 2);
        check.due("no order 2", x.proof(2, true, 0), Check.UNKNOWN);
        check.due("the next number", x.order(0, 1, 0, 3, 0, 5), 2);
    }

    private static void isMadeOnTheClocksDay() {
        OrderRows2 x = new OrderRows2();
        x.tick(7);
        x.order(0, 1, 0, 2, 30, 40);
        check.due("tick(21)", x.tick(21), 0);
        check.due("tick(22)", x.tick(22), 1);
    }
}
