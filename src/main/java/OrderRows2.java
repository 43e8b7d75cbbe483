import java.util.ArrayList;

/** Standing orders at addresses, as ../shared/DOC.md promises them. */
public final class OrderRows2 {
    public static final int UNKNOWN = -101, OUTSIDE = -102, STATE = -103, ROOM = -104;

    private static final int LAST_DAY = 20000;
    private static final int LAST_ADDRESS = 99;
    private static final int LAST_PERSON = 49;
    private static final int ALL_PERSONS = -1;
    private static final int CLASSES = 3;
    private static final int KINDS = 9;
    private static final int GREATEST_RANK = 100;
    private static final int MOST_ORDERS = 200;
    private static final int DAYS_TO_PROVE = 14;

    private static final int DOES_SEND_ON = 0;
    private static final int DOES_HOLD = 1;

    private static final int ITEM_IS_HELD = 0;
    private static final int ITEM_GOES_ROUND = -1;
    private static final int ITEM_IS_REFUSED = -2;

    private final ArrayList<Order> orders;
    private final int[] rankOfKind;
    private final int[] path;
    private final int[] ringTold;
    private int ringLength;
    private long clock;

    public OrderRows2() {
        orders = new ArrayList<>();
        rankOfKind = new int[KINDS];
        // One place more than there are addresses: the last step of the longest way comes to one again.
        path = new int[LAST_ADDRESS + 1];
        ringTold = new int[LAST_ADDRESS];
        ringLength = 0;
        clock = 0;
    }

    public int order(int kind, int entry, int who, int to, long from, long until) {
        // A number that is no kind sends nothing on, so it never makes 'to' UNKNOWN.
        boolean sendsOn = isKind(kind) && doneBy(kind) == DOES_SEND_ON;
        if (!isAddress(entry) || !(who == ALL_PERSONS || isPerson(who)) || sendsOn && !isAddress(to)) {
            return UNKNOWN;
        }
        if (!isKind(kind) || !isDay(from) || !isDay(until) || until < from || sendsOn && to == entry) {
            return OUTSIDE;
        }
        if (orders.size() >= MOST_ORDERS) {
            return ROOM;
        }
        orders.add(new Order(kind, entry, who, to, from, until, clock));
        return orders.size();
    }

    public int proof(int order, boolean good, long t) {
        Order proved = find(order);
        if (proved == null) {
            return UNKNOWN;
        }
        if (!canBeClock(t)) {
            return OUTSIDE;
        }
        moveClock(t);
        if (proved.isOver() || proved.isProved) {
            return STATE;
        }
        if (!good) {
            proved.overFrom = clock;
            return 0;
        }
        proved.isProved = true;
        return 1;
    }

    public int withdraw(int order, long t) {
        Order withdrawn = find(order);
        if (withdrawn == null) {
            return UNKNOWN;
        }
        if (!canBeClock(t)) {
            return OUTSIDE;
        }
        moveClock(t);
        if (withdrawn.isOver()) {
            return STATE;
        }
        withdrawn.overFrom = clock;
        return withdrawn.daysOfSpanFrom(clock);
    }

    public int effective(int entry, int who, int kind, long day) {
        if (!isAddress(entry) || !isPerson(who)) {
            return UNKNOWN;
        }
        if (kind < 0 || kind >= CLASSES || !isDay(day)) {
            return OUTSIDE;
        }
        int address = entry;
        for (int steps = 0; steps < path.length; steps++) {
            int earlier = stepAt(address, steps);
            if (earlier < steps) {
                tellRing(earlier, steps);
                return ITEM_GOES_ROUND;
            }
            path[steps] = address;
            Order strongest = strongest(address, who, kind, day);
            if (strongest == null) {
                return address;
            }
            if (!strongest.sendsOn()) {
                return doneBy(strongest.kind) == DOES_HOLD ? ITEM_IS_HELD : ITEM_IS_REFUSED;
            }
            address = strongest.to;
        }
        // Never reached: a way over more steps than there are addresses has come to one again.
        return ITEM_GOES_ROUND;
    }

    public int ring(int i) {
        return i < 0 || i >= ringLength ? 0 : ringTold[i];
    }

    public int rank(int kind, int r) {
        if (!isKind(kind) || r < 0 || r > GREATEST_RANK) {
            return OUTSIDE;
        }
        int before = rankOf(kind);
        rankOfKind[kind] = r;
        return before;
    }

    public int tick(long t) {
        return canBeClock(t) ? moveClock(t) : OUTSIDE;
    }

    public int extend(int order, long until) {
        Order extended = find(order);
        if (extended == null) {
            return UNKNOWN;
        }
        if (!isDay(until)) {
            return OUTSIDE;
        }
        if (extended.isOver()) {
            return STATE;
        }
        if (until <= extended.until) {
            return 0;
        }
        extended.until = until;
        return 1;
    }

    public int told(int sender, int i) {
        if (!isPerson(sender)) {
            return UNKNOWN;
        }
        int before = 0;
        for (int number = 1; number <= orders.size(); number++) {
            Order order = find(number);
            if (order != null && order.isToldTo(sender, clock)) {
                if (before == i) {
                    return number;
                }
                before++;
            }
        }
        return 0;
    }

    private static boolean isAddress(int address) {
        return address >= 1 && address <= LAST_ADDRESS;
    }

    private static boolean isPerson(int person) {
        return person >= 0 && person <= LAST_PERSON;
    }

    private static boolean isKind(int kind) {
        return kind >= 0 && kind < KINDS;
    }

    private static boolean isDay(long day) {
        return day >= 0 && day <= LAST_DAY;
    }

    private static int doneBy(int kind) {
        return kind / CLASSES;
    }

    private boolean canBeClock(long t) {
        return isDay(t) && t >= clock;
    }

    /** The order of that number, or null: the numbers are the places in the list, from 1 on. */
    private Order find(int number) {
        return number < 1 || number > orders.size() ? null : orders.get(number - 1);
    }

    /** Sets the clock; how many orders lapsed by that. */
    private int moveClock(long t) {
        clock = t;
        int lapsed = 0;
        for (int number = 1; number <= orders.size(); number++) {
            Order order = find(number);
            if (order != null && order.lapseIfDue(clock)) {
                lapsed++;
            }
        }
        return lapsed;
    }

    /** The order that decides at an address, or null when there is none. */
    private Order strongest(int address, int person, int itemClass, long day) {
        Order best = null;
        for (int number = 1; number <= orders.size(); number++) {
            Order order = find(number);
            // Of equal ranks the later order wins: the loop goes from the least number to the greatest.
            if (order != null && order.concerns(address, person, itemClass) && order.isInForce(day)
                    && (best == null || rankOf(order.kind) >= rankOf(best.kind))) {
                best = order;
            }
        }
        return best;
    }

    private int rankOf(int kind) {
        return isKind(kind) ? rankOfKind[kind] : 0;
    }

    /** The step of the path at which an address was come to; 'steps' when it was not. */
    private int stepAt(int address, int steps) {
        for (int step = 0; step < steps && step < path.length; step++) {
            if (path[step] == address) {
                return step;
            }
        }
        return steps;
    }

    private void tellRing(int first, int end) {
        ringLength = 0;
        for (int step = Math.max(first, 0); step < end && step < path.length && ringLength < ringTold.length; step++) {
            ringTold[ringLength] = path[step];
            ringLength++;
        }
    }

    private static final class Order {
        /** Above every day, so that an order that is not over is in force on its whole span. */
        private static final long NEVER = LAST_DAY + 1;

        final int kind;
        final int entry;
        final int who;
        final int to;
        final long from;
        final long made;
        long until;
        long overFrom;
        boolean isProved;

        Order(int kind, int entry, int who, int to, long from, long until, long made) {
            this.kind = kind;
            this.entry = entry;
            this.who = who;
            this.to = to;
            this.from = from;
            this.until = until;
            this.made = made;
            overFrom = NEVER;
            isProved = false;
        }

        boolean isOver() {
            return overFrom != NEVER;
        }

        boolean sendsOn() {
            return doneBy(kind) == DOES_SEND_ON;
        }

        boolean concerns(int address, int person, int itemClass) {
            return entry == address && (who == ALL_PERSONS || who == person) && kind % CLASSES == itemClass;
        }

        boolean isToldTo(int person, long clock) {
            return who == person && isProved && sendsOn() && isInForce(clock);
        }

        boolean isInForce(long day) {
            return from <= day && day <= until && day < overFrom;
        }

        int daysOfSpanFrom(long day) {
            long first = Math.max(from, day);
            return first > until ? 0 : (int) (until - first + 1);
        }

        /** True when the order lapses by that clock; the clock may stand far behind the day from which it is over. */
        boolean lapseIfDue(long clock) {
            if (isProved || isOver() || clock <= made + DAYS_TO_PROVE) {
                return false;
            }
            overFrom = made + DAYS_TO_PROVE + 1;
            return true;
        }
    }
}
