/**
 * For each call every combination of its edges, in states that differ, answered by the program and by
 * PlainModel. But for order(), effective() and rank(), both begin again after each call that may have changed
 * the state, so that each combination starts from the same one.
 */
public final class EdgesAgainstPlainModelTest {
    private static final int LEAST = Integer.MIN_VALUE, MOST = Integer.MAX_VALUE;
    private static final int NEW = 0, MIXED = 1, LATE = 2, FULL = 3, STATES = 4;
    private static final int[] KINDS = {LEAST, -3, -2, -1, 0, 2, 3, 5, 6, 8, 9, 10, MOST};
    private static final int[] ADDRESSES = {LEAST, -1, 0, 1, 2, 99, 100, MOST};
    private static final int[] PERSONS = {LEAST, -2, -1, 0, 49, 50, MOST};
    private static final int[] NUMBERS = {LEAST, -1, 0, 1, 2, 3, 4, 5, 6, 7, 8, 200, 201, MOST};
    private static final long[] DAYS = {Long.MIN_VALUE, -(1L << 32), -1, 0, 1, 14, 15, 19985, 19986, 19999, 20000,
        20001, 1L << 32, Long.MAX_VALUE};
    private static final long[] SPAN_DAYS = {Long.MIN_VALUE, -1, 0, 1, 20000, 20001, (1L << 32) + 1, Long.MAX_VALUE};
    private static final Check check = new Check();

    private final int state;
    private OrderRows2 program;
    private PlainModel model;
    private int calls;

    private EdgesAgainstPlainModelTest(int state) {
        this.state = state;
        begin();
    }

    public static void main(String[] args) {
        for (int state = 0; state < STATES; state++) {
            EdgesAgainstPlainModelTest pair = new EdgesAgainstPlainModelTest(state);
            pair.allOrders();
            pair.allProofs();
            pair.allWithdrawals();
            pair.allEffective();
            pair.allExtensions();
            pair.allRanks();
            pair.allTicks();
            pair.allToldAndRing();
        }
        check.end();
    }

    private void begin() {
        program = new OrderRows2();
        model = new PlainModel();
        calls = 0;
        if (state == MIXED) {
            mixed();
        } else if (state == LATE) {
            tick(19985);
            order(0, 1, 0, 2, 0, 20000);
            tick(19986);
            order(0, 1, 0, 99, 20000, 20000);
            order(5, 99, -1, 0, 0, 20000);
        } else if (state == FULL) {
            for (int n = 0; n < 200; n++) {
                order(n % 9, 1 + n % 2 * 98, n % 3 - 1, 1 + n % 97, n % 5, 20000 - n % 7);
            }
        }
    }

    /** A proved order, one of a bad proof, a withdrawn one, two that are open, a ring and a lapsed one. */
    private void mixed() {
        order(0, 50, -1, 51, 0, 20000);
        tick(1);
        order(0, 1, 0, 2, 0, 15);
        order(0, 2, -1, 1, 1, 14);
        order(1, 1, 49, 99, 0, 20000);
        order(3, 99, -1, 0, 15, 19999);
        order(8, 2, 0, 0, 0, 20000);
        proof(2, true, 1);
        proof(3, false, 14);
        withdraw(4, 14);
        tick(15);
        effective(1, 0, 0, 1);
    }

    /** The document promises 512 calls of an object. */
    private void begun() {
        if (calls >= 512) {
            begin();
        }
        calls++;
    }

    private void due(String call, int got, int want) {
        check.due("state " + state + ": " + call, got, want);
    }

    /** A call that was answered, or was STATE, may have changed the state or the clock. */
    private void again(int answer) {
        if (answer != Check.UNKNOWN && answer != Check.OUTSIDE && answer != Check.ROOM) {
            begin();
        }
    }

    private int order(int kind, int entry, int who, int to, long from, long until) {
        begun();
        int want = model.order(kind, entry, who, to, from, until);
        due("order(" + kind + ", " + entry + ", " + who + ", " + to + ", " + from + ", " + until + ")",
                program.order(kind, entry, who, to, from, until), want);
        return want;
    }

    private int proof(int order, boolean good, long t) {
        begun();
        int want = model.proof(order, good, t);
        due("proof(" + order + ", " + good + ", " + t + ")", program.proof(order, good, t), want);
        return want;
    }

    private int withdraw(int order, long t) {
        begun();
        int want = model.withdraw(order, t);
        due("withdraw(" + order + ", " + t + ")", program.withdraw(order, t), want);
        return want;
    }

    private void effective(int entry, int who, int kind, long day) {
        begun();
        due("effective(" + entry + ", " + who + ", " + kind + ", " + day + ")",
                program.effective(entry, who, kind, day), model.effective(entry, who, kind, day));
    }

    private int tick(long t) {
        begun();
        int want = model.tick(t);
        due("tick(" + t + ")", program.tick(t), want);
        return want;
    }

    private void ring(int i) {
        begun();
        due("ring(" + i + ")", program.ring(i), model.ring(i));
    }

    private void told(int sender, int i) {
        begun();
        due("told(" + sender + ", " + i + ")", program.told(sender, i), model.told(sender, i));
    }

    /** What the state shows of itself behind a call. */
    private void look() {
        for (int address : new int[] {1, 2, 50, 99}) {
            for (long day : new long[] {0, 14, 15, 16, 20000}) {
                effective(address, 0, 0, day);
            }
            effective(address, 49, 1, 15);
            effective(address, 49, 2, 15);
        }
        for (int i = 0; i < 3; i++) {
            told(0, i);
            told(49, i);
            ring(i);
        }
    }

    private void allOrders() {
        for (int kind : KINDS) {
            for (int entry : ADDRESSES) {
                for (int who : PERSONS) {
                    for (int to : ADDRESSES) {
                        ordersOfAllSpans(kind, entry, who, to);
                    }
                }
            }
        }
        begin();
    }

    private void ordersOfAllSpans(int kind, int entry, int who, int to) {
        for (long from : SPAN_DAYS) {
            for (long until : SPAN_DAYS) {
                // An order more changes no later refusal but ROOM, so the object is used on until its calls end.
                order(kind, entry, who, to, from, until);
            }
        }
    }

    private void allProofs() {
        for (int number : NUMBERS) {
            for (long t : DAYS) {
                for (boolean good : new boolean[] {true, false}) {
                    int answer = proof(number, good, t);
                    proof(number, !good, t);
                    look();
                    again(answer);
                }
            }
        }
        begin();
    }

    private void allWithdrawals() {
        for (int number : NUMBERS) {
            for (long t : DAYS) {
                int answer = withdraw(number, t);
                withdraw(number, t);
                look();
                again(answer);
            }
        }
        begin();
    }

    private void allEffective() {
        for (int entry : ADDRESSES) {
            for (int who : PERSONS) {
                for (int itemClass : new int[] {LEAST, -1, 0, 1, 2, 3, MOST}) {
                    for (long day : DAYS) {
                        effective(entry, who, itemClass, day);
                    }
                }
            }
        }
        begin();
    }

    private void allExtensions() {
        for (int number : NUMBERS) {
            for (long until : DAYS) {
                begun();
                int want = model.extend(number, until);
                due("extend(" + number + ", " + until + ")", program.extend(number, until), want);
                look();
                again(want);
            }
        }
        begin();
    }

    private void allRanks() {
        for (int kind : KINDS) {
            for (int r : new int[] {LEAST, -1, 0, 1, 99, 100, 101, MOST}) {
                begun();
                int want = model.rank(kind, r);
                due("rank(" + kind + ", " + r + ")", program.rank(kind, r), want);
                look();
            }
        }
        begin();
    }

    private void allTicks() {
        for (long first : DAYS) {
            for (long then : DAYS) {
                int answer = tick(first);
                tick(then);
                look();
                again(answer);
            }
        }
        begin();
    }

    private void allToldAndRing() {
        for (int i : new int[] {LEAST, -1, 0, 1, 2, 98, 99, 100, 199, 200, MOST}) {
            for (int person : PERSONS) {
                told(person, i);
            }
            ring(i);
        }
        begin();
    }
}
