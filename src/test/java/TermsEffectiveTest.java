/** The document's Terms on what is EFFECTIVE and on the RING: a test of its own for each sentence. */
public final class TermsEffectiveTest {
    private static final Check check = new Check();

    public static void main(String[] args) {
        ofTheOrdersThere();
        forThatPersonOrAll();
        ofThatClass();
        inForceOnThatDay();
        theGreatestRank();
        rank0AtFirst();
        ofSeveralTheGreatestNumber();
        noneIsTheAddress();
        heldIs0RefusedIsMinus2();
        sentOnAsForTheOther();
        samePersonClassAndDay();
        comesToAnAddressAgain();
        theFirstAddressAgain();
        ringFromThatOneOn();
        theShortestRing();
        theLongestRing();
        onlyARingIsTold();
        check.end();
    }

    private static OrderRows2 sending(int... way) {
        OrderRows2 x = new OrderRows2();
        for (int i = 0; i + 1 < way.length; i++) {
            x.order(0, way[i], -1, way[i + 1], 0, 9);
        }
        return x;
    }

    private static void isRing(OrderRows2 x, int... want) {
        for (int i = 0; i < want.length; i++) {
            check.due("ring(" + i + ")", x.ring(i), want[i]);
        }
        for (int i = want.length; i <= 101; i++) {
            check.due("ring(" + i + ")", x.ring(i), 0);
        }
        check.due("ring(-1)", x.ring(-1), 0);
    }

    /** "of the orders there": an order is for its address, not for the one that it sends on to. */
    private static void ofTheOrdersThere() {
        OrderRows2 x = sending(1, 2);
        check.due("at 1", x.effective(1, 0, 0, 0), 2);
        check.due("at 2", x.effective(2, 0, 0, 0), 2);
        check.due("at 3", x.effective(3, 0, 0, 0), 3);
    }

    /** "for that person or all" */
    private static void forThatPersonOrAll() {
        OrderRows2 x = new OrderRows2();
        x.order(0, 1, -1, 2, 0, 9);
        x.order(0, 1, 0, 3, 0, 9);
        x.order(0, 1, 49, 4, 0, 9);
        check.due("person 0", x.effective(1, 0, 0, 0), 3);
        check.due("person 49", x.effective(1, 49, 0, 0), 4);
        check.due("another", x.effective(1, 1, 0, 0), 2);
        x.order(0, 1, -1, 5, 0, 9);
        check.due("all, with a greater number", x.effective(1, 0, 0, 0), 5);
    }

    /** "of that class": the rank of another class does not matter. */
    private static void ofThatClass() {
        OrderRows2 x = new OrderRows2();
        x.order(0, 1, -1, 2, 0, 9);
        x.order(1, 1, -1, 3, 0, 9);
        x.order(2, 1, -1, 4, 0, 9);
        x.rank(1, 100);
        check.due("class 0", x.effective(1, 0, 0, 0), 2);
        check.due("class 1", x.effective(1, 0, 1, 0), 3);
        check.due("class 2", x.effective(1, 0, 2, 0), 4);
    }

    /** "in force on that day": one that is not gives way, whatever its rank and number. */
    private static void inForceOnThatDay() {
        OrderRows2 x = new OrderRows2();
        x.order(0, 1, 0, 2, 0, 9);
        x.order(3, 1, 0, 0, 4, 5);
        x.rank(3, 100);
        check.due("day 3", x.effective(1, 0, 0, 3), 2);
        check.due("day 4", x.effective(1, 0, 0, 4), 0);
        check.due("day 5", x.effective(1, 0, 0, 5), 0);
        check.due("day 6", x.effective(1, 0, 0, 6), 2);
        x.withdraw(2, 5);
        check.due("day 4, withdrawn on 5", x.effective(1, 0, 0, 4), 0);
        check.due("day 5, withdrawn on 5", x.effective(1, 0, 0, 5), 2);
    }

    /** "the one whose kind has the greatest RANK", though another has the greater number. */
    private static void theGreatestRank() {
        OrderRows2 x = new OrderRows2();
        x.order(3, 1, 0, 0, 0, 9);
        x.order(0, 1, 0, 2, 0, 9);
        x.order(6, 1, 0, 0, 0, 9);
        x.rank(3, 100);
        x.rank(0, 99);
        x.rank(6, 98);
        check.due("100 above 99", x.effective(1, 0, 0, 0), 0);
        x.rank(3, 98);
        check.due("99 above 98", x.effective(1, 0, 0, 0), 2);
        x.rank(0, 0);
        check.due("two of 98", x.effective(1, 0, 0, 0), -2);
        x.rank(6, 0);
        check.due("98 above 0", x.effective(1, 0, 0, 0), 0);
    }

    /** "(0 at first)": a rank that was never told is as small as 0, and below 1. */
    private static void rank0AtFirst() {
        for (int kind = 0; kind <= 8; kind++) {
            OrderRows2 x = new OrderRows2();
            int other = (kind + 3) % 9;
            x.order(other, 1, 0, 2, 0, 9);
            x.order(kind, 1, 0, 3, 0, 9);
            int late = x.effective(1, 0, kind % 3, 0);
            check.due("the later one, kind " + kind, late, kind < 3 ? 3 : kind < 6 ? 0 : -2);
            check.due("as it was", x.rank(other, 0), 0);
            check.due("0 is not above", x.effective(1, 0, kind % 3, 0), late);
            x.rank(other, 1);
            check.due("1 is", x.effective(1, 0, kind % 3, 0), other < 3 ? 2 : other < 6 ? 0 : -2);
        }
    }

    /** "of several the one with the greatest number" */
    private static void ofSeveralTheGreatestNumber() {
        OrderRows2 x = new OrderRows2();
        for (int n = 1; n <= 98; n++) {
            x.order(0, 1, n % 2 == 0 ? -1 : 7, n + 1, 0, 9);
            check.due("number " + n, x.effective(1, 7, 0, 0), n + 1);
        }
        x.rank(0, 100);
        check.due("with a rank", x.effective(1, 7, 0, 0), 99);
        x.withdraw(98, 0);
        check.due("the next below", x.effective(1, 7, 0, 0), 98);
        check.due("the next for all", x.effective(1, 8, 0, 0), 97);
    }

    /** "None: the address." */
    private static void noneIsTheAddress() {
        OrderRows2 x = new OrderRows2();
        for (int address = 1; address <= 99; address++) {
            check.due("at " + address, x.effective(address, 49, 2, 20000), address);
        }
    }

    /** "Held: 0. Refused: -2.", also when 'to' is an address. */
    private static void heldIs0RefusedIsMinus2() {
        OrderRows2 x = new OrderRows2();
        x.order(3, 1, 0, 7, 0, 9);
        x.order(6, 2, 0, 7, 0, 9);
        x.order(4, 3, 0, 3, 0, 9);
        check.due("held", x.effective(1, 0, 0, 0), 0);
        check.due("refused", x.effective(2, 0, 0, 0), -2);
        check.due("held, to itself", x.effective(3, 0, 1, 0), 0);
    }

    /** "Sent on: as for that other address" */
    private static void sentOnAsForTheOther() {
        OrderRows2 x = sending(9, 1, 8, 2);
        check.due("through three", x.effective(9, 0, 0, 0), 2);
        x.order(3, 2, 0, 0, 1, 1);
        x.order(6, 2, 0, 0, 2, 2);
        check.due("held there", x.effective(9, 0, 0, 1), 0);
        check.due("refused there", x.effective(9, 0, 0, 2), -2);
        check.due("none there", x.effective(9, 0, 0, 3), 2);
    }

    /** "(same person, class, day)" */
    private static void samePersonClassAndDay() {
        OrderRows2 x = sending(1, 2);
        x.order(0, 2, 7, 3, 5, 5);
        x.order(1, 2, 7, 4, 0, 9);
        x.order(0, 2, 8, 5, 0, 9);
        check.due("person 7, day 5", x.effective(1, 7, 0, 5), 3);
        check.due("person 7, day 4", x.effective(1, 7, 0, 4), 2);
        check.due("person 8, day 4", x.effective(1, 8, 0, 4), 5);
        check.due("person 9, day 5", x.effective(1, 9, 0, 5), 2);
        x.tick(5);
        check.due("the day asked, not the clock's", x.effective(1, 7, 0, 4), 2);
    }

    /** "if that comes to an address again: -1": any address of the way, not the first alone. */
    private static void comesToAnAddressAgain() {
        check.due("the first", sending(1, 2, 3, 1).effective(1, 0, 0, 0), -1);
        check.due("the second", sending(1, 2, 3, 2).effective(1, 0, 0, 0), -1);
        check.due("the last", sending(1, 2, 3, 4, 3).effective(1, 0, 0, 0), -1);
        check.due("none", sending(1, 2, 3, 4).effective(1, 0, 0, 0), 4);
        check.due("into none", sending(1, 2, 3, 2).effective(4, 0, 0, 0), 4);
    }

    private static void theFirstAddressAgain() {
        OrderRows2 x = sending(5, 3, 4, 5);
        check.due("from 5", x.effective(5, 0, 0, 0), -1);
        isRing(x, 5, 3, 4);
        check.due("from 3", x.effective(3, 0, 0, 0), -1);
        isRing(x, 3, 4, 5);
        check.due("from 4", x.effective(4, 0, 0, 0), -1);
        isRing(x, 4, 5, 3);
    }

    /** "the RING is told: the addresses from that one on, each once, in their order" */
    private static void ringFromThatOneOn() {
        OrderRows2 x = sending(50, 40, 60, 30, 60);
        check.due("from 50", x.effective(50, 0, 0, 0), -1);
        isRing(x, 60, 30);
        check.due("from 30", x.effective(30, 0, 0, 0), -1);
        isRing(x, 30, 60);
    }

    /** No order sends on to its own address, so a ring has two at least. */
    private static void theShortestRing() {
        OrderRows2 x = sending(1, 99, 1);
        check.due("from 1", x.effective(1, 0, 0, 0), -1);
        isRing(x, 1, 99);
        check.due("from 99", x.effective(99, 0, 0, 0), -1);
        isRing(x, 99, 1);
        check.due("to itself", x.order(0, 1, 0, 1, 0, 9), Check.OUTSIDE);
    }

    private static void theLongestRing() {
        OrderRows2 x = new OrderRows2();
        int[] down = new int[99];
        for (int address = 99; address >= 1; address--) {
            x.order(2, address, -1, address == 1 ? 99 : address - 1, 0, 9);
            down[99 - address] = address;
        }
        check.due("all of them", x.effective(99, 0, 2, 0), -1);
        isRing(x, down);
        x.order(2, 1, 0, 2, 5, 5);
        check.due("two behind 97 others", x.effective(99, 0, 2, 5), -1);
        isRing(x, 2, 1);
        x.withdraw(100, 0);
        x.withdraw(99, 0);
        check.due("a way through all 99", x.effective(99, 0, 2, 0), 1);
        isRing(x, 2, 1);
    }

    /** No other answer tells a ring or takes one away. */
    private static void onlyARingIsTold() {
        OrderRows2 x = sending(1, 2, 1);
        x.order(0, 3, -1, 4, 0, 9);
        x.order(3, 5, -1, 4, 0, 9);
        x.order(6, 6, -1, 4, 0, 9);
        x.effective(1, 0, 0, 0);
        x.effective(3, 0, 0, 0);
        isRing(x, 1, 2);
        x.effective(5, 0, 0, 0);
        x.effective(6, 0, 0, 0);
        x.effective(7, 0, 0, 0);
        x.effective(2, 0, 0, 10);
        x.effective(2, 0, 1, 0);
        isRing(x, 1, 2);
        x.effective(0, 0, 0, 0);
        x.effective(2, 50, 0, 0);
        x.effective(2, 0, -1, 0);
        x.effective(2, 0, 0, -1);
        isRing(x, 1, 2);
        check.due("the other one", x.effective(2, 0, 0, 9), -1);
        isRing(x, 2, 1);
    }
}
