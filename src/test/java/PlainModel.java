import java.util.ArrayList;
import java.util.BitSet;
import java.util.List;

/**
 * The document once more, with a row of days for each order and a clock that goes day by day:
 * slow, and as unlike the program as it can be, so that both hardly err alike.
 */
final class PlainModel {
    private static final int LAST_DAY = 20000;

    private static final class Row {
        int kind, entry, who, to, until, made;
        boolean proved, over;
        final BitSet days = new BitSet();
    }

    private final List<Row> rows = new ArrayList<>();
    private final int[] ranks = new int[9];
    private List<Integer> ring = new ArrayList<>();
    private int clock = 0;

    int order(int kind, int entry, int who, int to, long from, long until) {
        boolean sends = kind == 0 || kind == 1 || kind == 2;
        if (entry < 1 || entry > 99) return Check.UNKNOWN;
        if (who < -1 || who > 49) return Check.UNKNOWN;
        if (sends && (to < 1 || to > 99)) return Check.UNKNOWN;
        if (kind < 0 || kind > 8) return Check.OUTSIDE;
        if (!(0 <= from && from <= until && until <= LAST_DAY)) return Check.OUTSIDE;
        if (sends && to == entry) return Check.OUTSIDE;
        if (rows.size() == 200) return Check.ROOM;
        Row row = new Row();
        row.kind = kind;
        row.entry = entry;
        row.who = who;
        row.to = to;
        row.until = (int) until;
        row.made = clock;
        row.days.set((int) from, (int) until + 1);
        rows.add(row);
        return rows.size();
    }

    int proof(int order, boolean good, long t) {
        if (order < 1 || order > rows.size()) return Check.UNKNOWN;
        if (goTo(t) < 0) return Check.OUTSIDE;
        Row row = rows.get(order - 1);
        if (row.over || row.proved) return Check.STATE;
        if (good) row.proved = true;
        else end(row, clock);
        return good ? 1 : 0;
    }

    int withdraw(int order, long t) {
        if (order < 1 || order > rows.size()) return Check.UNKNOWN;
        if (goTo(t) < 0) return Check.OUTSIDE;
        Row row = rows.get(order - 1);
        return row.over ? Check.STATE : end(row, clock);
    }

    int effective(int entry, int who, int kind, long day) {
        if (entry < 1 || entry > 99 || who < 0 || who > 49) return Check.UNKNOWN;
        if (kind < 0 || kind > 2 || day < 0 || day > LAST_DAY) return Check.OUTSIDE;
        return follow(new ArrayList<>(), entry, who, kind, (int) day);
    }

    private int follow(List<Integer> way, int address, int who, int itemClass, int day) {
        int met = way.indexOf(address);
        if (met >= 0) {
            ring = new ArrayList<>(way.subList(met, way.size()));
            return -1;
        }
        way.add(address);
        for (int rank = 100; rank >= 0; rank--) {
            for (int n = rows.size() - 1; n >= 0; n--) {
                Row row = rows.get(n);
                boolean there = row.entry == address && (row.who == -1 || row.who == who);
                if (there && row.kind % 3 == itemClass && row.days.get(day) && ranks[row.kind] == rank) {
                    if (row.kind >= 6) return -2;
                    return row.kind >= 3 ? 0 : follow(way, row.to, who, itemClass, day);
                }
            }
        }
        return address;
    }

    int ring(int i) {
        return i >= 0 && i < ring.size() ? ring.get(i) : 0;
    }

    int rank(int kind, int r) {
        if (kind < 0 || kind > 8 || r < 0 || r > 100) return Check.OUTSIDE;
        int before = ranks[kind];
        ranks[kind] = r;
        return before;
    }

    int tick(long t) {
        int lapsed = goTo(t);
        return lapsed < 0 ? Check.OUTSIDE : lapsed;
    }

    int extend(int order, long until) {
        if (order < 1 || order > rows.size()) return Check.UNKNOWN;
        if (until < 0 || until > LAST_DAY) return Check.OUTSIDE;
        Row row = rows.get(order - 1);
        if (row.over) return Check.STATE;
        if (until <= row.until) return 0;
        row.days.set(row.until + 1, (int) until + 1);
        row.until = (int) until;
        return 1;
    }

    int told(int sender, int i) {
        if (sender < 0 || sender > 49) return Check.UNKNOWN;
        List<Integer> numbers = new ArrayList<>();
        for (Row row : rows) {
            if (row.proved && row.kind < 3 && row.who == sender && row.days.get(clock)) {
                numbers.add(rows.indexOf(row) + 1);
            }
        }
        return i >= 0 && i < numbers.size() ? numbers.get(i) : 0;
    }

    /** Day by day; how many orders lapse on the way, or -1 when the clock can't go there. */
    private int goTo(long t) {
        if (t < clock || t > LAST_DAY) return -1;
        int lapsed = 0;
        while (clock < t) {
            clock++;
            for (Row row : rows) {
                if (!row.proved && !row.over && clock == row.made + 15) {
                    end(row, clock);
                    lapsed++;
                }
            }
        }
        return lapsed;
    }

    /** How many days fall away. */
    private static int end(Row row, int day) {
        int before = row.days.cardinality();
        row.days.clear(day, LAST_DAY + 1);
        row.over = true;
        return before - row.days.cardinality();
    }
}
