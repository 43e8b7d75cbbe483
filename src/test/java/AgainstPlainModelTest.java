/** Long runs of calls, each answered by the program and by PlainModel. */
public final class AgainstPlainModelTest {
    private static final int RUNS = 400;
    /** With the ring asked at the end this stays under the 512 calls for which an object is promised. */
    private static final int CALLS = 400;
    private static final int[] STRANGE = {
        Integer.MIN_VALUE, -1000, -3, -2, -1, 0, 1, 8, 9, 49, 50, 99, 100, 101, 200, 201, 20000, 20001,
        Integer.MAX_VALUE,
    };
    private static final long[] STRANGE_DAYS = {
        Long.MIN_VALUE, -(1L << 32), -1, 0, 19999, 20000, 20001, 1L << 32, (1L << 32) + 20, Long.MAX_VALUE,
    };

    private final Check check;
    private final OrderRows2 program = new OrderRows2();
    private final PlainModel model = new PlainModel();
    private final int run;
    private final int addresses;
    private final int persons;
    private final int hurry;
    /** So many orders that there is no room for more. */
    private final boolean crowded;
    private long seed;
    private long today = 0;

    private AgainstPlainModelTest(Check check, int run) {
        this.check = check;
        this.run = run;
        this.seed = run * 7919L + 17;
        this.addresses = run % 4 == 0 ? 99 : 2 + run % 7;
        this.persons = 1 + run % 3;
        this.hurry = run % 5 == 0 ? 200 : 4;
        this.crowded = run % 6 == 1;
        if (run % 11 == 3) {
            // The last days, behind which no clock goes.
            today = 19970;
            program.tick(today);
            model.tick(today);
        }
    }

    public static void main(String[] args) {
        Check check = new Check();
        for (int run = 0; run < RUNS; run++) {
            AgainstPlainModelTest pair = new AgainstPlainModelTest(check, run);
            for (int call = 0; call < CALLS; call++) {
                pair.call(call);
            }
            pair.wholeRing();
        }
        check.end();
    }

    private int below(int bound) {
        seed = seed * 6364136223846793005L + 1442695040888963407L;
        return (int) Math.floorMod(seed >> 33, (long) bound);
    }

    private boolean strange() {
        return below(40) == 0;
    }

    private int from(int least, int most) {
        return strange() ? STRANGE[below(STRANGE.length)] : least + below(most - least + 1);
    }

    private long day() {
        return strange() ? STRANGE_DAYS[below(STRANGE_DAYS.length)] : Math.max(0, today - 20) + below(50);
    }

    private long nextDay() {
        if (strange() && below(8) != 0) {
            long t = STRANGE_DAYS[below(STRANGE_DAYS.length)];
            // A clock on its last days would leave the rest of the run without a lapse.
            return t >= 19999 && t <= 20000 ? today - 1 : t;
        }
        long t = today + (below(3) == 0 ? below(hurry) : 0);
        if (t <= 20000) {
            today = t;
        }
        return t;
    }

    private int number() {
        return from(1, crowded ? 202 : 60);
    }

    private int kind() {
        return below(3) > 0 ? from(0, 2) : from(0, 8);
    }

    private void call(int call) {
        switch (crowded && below(2) == 0 ? 0 : below(13)) {
            case 0: case 1: case 2: case 3: order(call); break;
            case 4: proof(call); break;
            case 5: withdraw(call); break;
            case 6: case 7: effective(call); break;
            case 8: rank(call); break;
            case 9: tick(call); break;
            case 10: extend(call); break;
            case 11: told(call); break;
            default: ring(call, from(0, 4)); break;
        }
    }

    private void wholeRing() {
        for (int i = -1; i <= 100; i++) {
            ring(CALLS, i);
        }
    }

    private void due(int call, String text, int got, int want) {
        check.due("run " + run + ", call " + call + ": " + text, got, want);
    }

    private void order(int call) {
        int kind = kind(), entry = from(1, addresses), who = from(-1, persons - 1), to = from(1, addresses);
        long from = day(), until = strange() ? day() : from + below(40);
        due(call, "order(" + kind + ", " + entry + ", " + who + ", " + to + ", " + from + ", " + until + ")",
                program.order(kind, entry, who, to, from, until), model.order(kind, entry, who, to, from, until));
    }

    private void proof(int call) {
        int order = number();
        boolean good = below(4) > 0;
        long t = nextDay();
        due(call, "proof(" + order + ", " + good + ", " + t + ")",
                program.proof(order, good, t), model.proof(order, good, t));
    }

    private void withdraw(int call) {
        int order = number();
        long t = nextDay();
        due(call, "withdraw(" + order + ", " + t + ")", program.withdraw(order, t), model.withdraw(order, t));
    }

    private void effective(int call) {
        int entry = from(1, addresses), who = from(0, persons - 1), kind = from(0, 2);
        long day = day();
        due(call, "effective(" + entry + ", " + who + ", " + kind + ", " + day + ")",
                program.effective(entry, who, kind, day), model.effective(entry, who, kind, day));
    }

    private void rank(int call) {
        int kind = from(0, 8), r = from(0, 3);
        due(call, "rank(" + kind + ", " + r + ")", program.rank(kind, r), model.rank(kind, r));
    }

    private void tick(int call) {
        long t = nextDay();
        due(call, "tick(" + t + ")", program.tick(t), model.tick(t));
    }

    private void extend(int call) {
        int order = number();
        long until = day();
        due(call, "extend(" + order + ", " + until + ")", program.extend(order, until), model.extend(order, until));
    }

    private void told(int call) {
        int sender = from(0, persons - 1), i = from(0, 3);
        due(call, "told(" + sender + ", " + i + ")", program.told(sender, i), model.told(sender, i));
    }

    private void ring(int call, int i) {
        due(call, "ring(" + i + ")", program.ring(i), model.ring(i));
    }
}
