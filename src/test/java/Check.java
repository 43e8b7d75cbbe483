/** Counts and prints the calls whose answer is not the one that is due. */
final class Check {
    static final int UNKNOWN = -101, OUTSIDE = -102, STATE = -103, ROOM = -104;

    private int wrong = 0;

    void due(String call, long got, long want) {
        if (got != want) {
            wrong++;
            System.out.println(call + " answered " + got + ", due is " + want);
        }
    }

    void end() {
        System.out.println(wrong == 0 ? "all answers are as due" : wrong + " answers are not as due");
        if (wrong != 0) {
            System.exit(1);
        }
    }
}
