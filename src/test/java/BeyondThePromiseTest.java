/**
 * What an object answers behind its 512th call is free, but LANGUAGE.md's rule 7 is not: no call ever
 * throws or fails to end, for any arguments in any state.
 */
public final class BeyondThePromiseTest {
    private static final int CALLS = 200000;
    private static final int[] STRANGE = {
        Integer.MIN_VALUE, Integer.MIN_VALUE + 1, -200, -99, -3, -2, -1, 0, 1, 2, 3, 8, 9, 49, 50, 98, 99, 100, 101,
        199, 200, 201, 255, 256, 65536, Integer.MAX_VALUE - 1, Integer.MAX_VALUE,
    };
    private static final long[] STRANGE_DAYS = {
        Long.MIN_VALUE, Long.MIN_VALUE + 1, -(1L << 32), -1, 0, 1, 13, 14, 15, 16, 20, 30, 50, 19985, 19986, 20000,
        20001, Integer.MAX_VALUE, 1L << 32, (1L << 32) + 20, Long.MAX_VALUE - 1, Long.MAX_VALUE,
    };
    private static final Check check = new Check();
    private static long seed = 1;

    public static void main(String[] args) {
        int thrown = 0;
        OrderRows2 x = new OrderRows2();
        for (int call = 0; call < CALLS; call++) {
            if (call % 5000 == 0) {
                x = new OrderRows2();
            }
            try {
                callAny(x);
            } catch (Throwable any) {
                thrown++;
                System.out.println("call " + call + " threw " + any);
            }
        }
        check.due("calls that threw", thrown, 0);
        check.end();
    }

    private static int below(int bound) {
        seed = seed * 6364136223846793005L + 1442695040888963407L;
        return (int) Math.floorMod(seed >> 33, (long) bound);
    }

    private static int any(int most) {
        return below(3) == 0 ? STRANGE[below(STRANGE.length)] : below(most + 1);
    }

    private static long anyDay() {
        return below(3) == 0 ? STRANGE_DAYS[below(STRANGE_DAYS.length)] : below(60);
    }

    private static int callAny(OrderRows2 x) {
        switch (below(11)) {
            case 0: case 1: case 2: return x.order(any(8), any(99), any(49), any(99), anyDay(), anyDay());
            case 3: return x.proof(any(200), below(2) == 0, anyDay());
            case 4: return x.withdraw(any(200), anyDay());
            case 5: case 6: return x.effective(any(99), any(49), any(2), anyDay());
            case 7: return x.ring(any(100));
            case 8: return x.rank(any(8), any(100));
            case 9: return below(20) == 0 ? x.tick(anyDay()) : x.extend(any(200), anyDay());
            default: return x.told(any(49), any(200));
        }
    }
}
