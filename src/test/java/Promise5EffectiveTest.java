/** Promise 5: effective. */
public final class Promise5EffectiveTest {
    private static final Check check = new Check();

    public static void main(String[] args) {
        whatIsDone();
        span();
        personsAndClasses();
        rankAndNumber();
        chains();
        rings();
        longestWays();
        refusals();
        check.end();
    }

    private static void whatIsDone() {
        for (int itemClass = 0; itemClass <= 2; itemClass++) {
            OrderRows2 x = new OrderRows2();
            x.order(itemClass, 1, 0, 2, 0, 5);
            x.order(3 + itemClass, 3, 0, 2, 0, 5);
            x.order(6 + itemClass, 4, 0, 2, 0, 5);
            for (int asked = 0; asked <= 2; asked++) {
                boolean same = asked == itemClass;
                check.due("sent on", x.effective(1, 0, asked, 5), same ? 2 : 1);
                check.due("held", x.effective(3, 0, asked, 5), same ? 0 : 3);
                check.due("refused", x.effective(4, 0, asked, 5), same ? -2 : 4);
                check.due("none", x.effective(5, 0, asked, 5), 5);
            }
        }
    }

    private static void span() {
        OrderRows2 x = new OrderRows2();
        x.order(0, 1, 0, 2, 3, 9);
        x.order(3, 5, 0, 0, 0, 20000);
        check.due("day 2", x.effective(1, 0, 0, 2), 1);
        check.due("day 3", x.effective(1, 0, 0, 3), 2);
        check.due("day 9", x.effective(1, 0, 0, 9), 2);
        check.due("day 10", x.effective(1, 0, 0, 10), 1);
        check.due("day 0", x.effective(5, 0, 0, 0), 0);
        check.due("day 20000", x.effective(5, 0, 0, 20000), 0);
        x.tick(15);
        check.due("a lapsed one, below its end", x.effective(1, 0, 0, 9), 2);
        check.due("a lapsed one, day 14", x.effective(5, 0, 0, 14), 0);
        check.due("a lapsed one, day 15", x.effective(5, 0, 0, 15), 5);
    }

    private static void personsAndClasses() {
        OrderRows2 x = new OrderRows2();
        x.order(1, 1, 7, 2, 0, 5);
        check.due("the person", x.effective(1, 7, 1, 0), 2);
        check.due("another person", x.effective(1, 8, 1, 0), 1);
        check.due("another class", x.effective(1, 7, 2, 0), 1);
        x.order(4, 1, -1, 2, 0, 5);
        check.due("all: the later one", x.effective(1, 7, 1, 0), 0);
        check.due("all: another person", x.effective(1, 49, 1, 0), 0);
        check.due("all: person 0", x.effective(1, 0, 1, 0), 0);
        x.order(7, 1, 7, 2, 0, 5);
        check.due("the person, later still", x.effective(1, 7, 1, 0), -2);
        check.due("another person, as before", x.effective(1, 8, 1, 0), 0);
    }

    private static void rankAndNumber() {
        OrderRows2 x = new OrderRows2();
        x.order(0, 1, 0, 2, 0, 5);
        x.order(6, 1, 0, 0, 0, 5);
        x.order(0, 1, -1, 3, 0, 5);
        x.order(3, 1, 0, 0, 2, 5);
        check.due("the greatest number", x.effective(1, 0, 0, 1), 3);
        check.due("the greatest number in force", x.effective(1, 0, 0, 2), 0);
        x.rank(6, 1);
        check.due("the greatest rank", x.effective(1, 0, 0, 2), -2);
        x.rank(0, 1);
        check.due("the greatest number of the greatest rank", x.effective(1, 0, 0, 2), 3);
        x.rank(3, 100);
        check.due("the greatest rank again", x.effective(1, 0, 0, 2), 0);
        check.due("it is not in force yet", x.effective(1, 0, 0, 1), 3);
        x.rank(3, 0);
        x.withdraw(3, 0);
        check.due("the next below", x.effective(1, 0, 0, 2), -2);
        x.rank(1, 100);
        check.due("another class's rank", x.effective(1, 0, 0, 2), -2);
    }

    private static void chains() {
        OrderRows2 x = new OrderRows2();
        x.order(0, 1, -1, 2, 0, 9);
        x.order(0, 2, 3, 3, 0, 9);
        x.order(0, 3, 3, 4, 2, 9);
        x.order(3, 4, 3, 0, 4, 9);
        x.order(6, 4, 3, 0, 6, 9);
        check.due("another person stays at 2", x.effective(1, 4, 0, 5), 2);
        check.due("day 1", x.effective(1, 3, 0, 1), 3);
        check.due("day 2", x.effective(1, 3, 0, 2), 4);
        check.due("day 4: held at the end", x.effective(1, 3, 0, 4), 0);
        check.due("day 6: refused at the end", x.effective(1, 3, 0, 6), -2);
        check.due("from the middle", x.effective(3, 3, 0, 2), 4);
        check.due("day 10", x.effective(1, 3, 0, 10), 1);
        check.due("an item of another class", x.effective(1, 3, 1, 2), 1);
        check.due("no ring", x.ring(0), 0);
    }

    private static void rings() {
        OrderRows2 x = new OrderRows2();
        x.order(0, 1, 0, 2, 0, 9);
        x.order(0, 2, 0, 1, 3, 9);
        check.due("no ring yet", x.effective(1, 0, 0, 2), 2);
        check.due("a ring", x.effective(1, 0, 0, 3), -1);
        check.due("a ring from its other address", x.effective(2, 0, 0, 3), -1);
        x.order(3, 2, 0, 0, 4, 9);
        check.due("held in the ring", x.effective(1, 0, 0, 4), 0);
        check.due("still a ring", x.effective(1, 0, 0, 3), -1);
    }

    private static void longestWays() {
        OrderRows2 x = new OrderRows2();
        for (int address = 1; address <= 98; address++) {
            x.order(2, address, -1, address + 1, 0, 9);
        }
        check.due("through all addresses", x.effective(1, 49, 2, 9), 99);
        x.order(5, 99, -1, 0, 0, 3);
        check.due("held at the last", x.effective(1, 49, 2, 3), 0);
        x.order(2, 99, -1, 1, 5, 5);
        check.due("a ring of all", x.effective(1, 49, 2, 5), -1);
        check.due("a ring of all from the middle", x.effective(50, 49, 2, 5), -1);
        x.order(2, 99, -1, 98, 6, 6);
        check.due("a ring at the end", x.effective(1, 49, 2, 6), -1);
        check.due("not on that day", x.effective(1, 49, 2, 7), 99);
    }

    private static void refusals() {
        OrderRows2 x = new OrderRows2();
        for (int entry : new int[] {0, 100, -1, Integer.MIN_VALUE, Integer.MAX_VALUE}) {
            check.due("entry " + entry, x.effective(entry, 0, 0, 0), Check.UNKNOWN);
            check.due("UNKNOWN before OUTSIDE", x.effective(entry, 0, 3, -1), Check.UNKNOWN);
        }
        for (int who : new int[] {-1, 50, Integer.MIN_VALUE, Integer.MAX_VALUE}) {
            check.due("who " + who, x.effective(1, who, 0, 0), Check.UNKNOWN);
            check.due("UNKNOWN before OUTSIDE", x.effective(1, who, -1, 20001), Check.UNKNOWN);
        }
        for (int itemClass : new int[] {-1, 3, Integer.MIN_VALUE, Integer.MAX_VALUE}) {
            check.due("class " + itemClass, x.effective(1, 0, itemClass, 0), Check.OUTSIDE);
        }
        for (long day : new long[] {-1, 20001, Long.MIN_VALUE, Long.MAX_VALUE, 1L << 32}) {
            check.due("day " + day, x.effective(1, 0, 0, day), Check.OUTSIDE);
        }
        check.due("the greatest numbers", x.effective(99, 49, 2, 20000), 99);
    }
}
