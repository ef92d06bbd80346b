import java.math.BigInteger;
import java.util.ArrayList;
import java.util.List;
import java.util.Map;
import java.util.TreeMap;

/** The tables once more, plainly, over the Java library: what is due of promises 10, 11, 12 and 14. */
final class TableModel {
    private static final int MOST = 1000000000;

    private final List<TreeMap<Integer, Integer>> tables = new ArrayList<>();

    int table() {
        if (tables.size() == 6) {
            throw new IllegalStateException();
        }
        tables.add(new TreeMap<>());
        return tables.size() - 1;
    }

    int row(int table, int place, int value) {
        TreeMap<Integer, Integer> rows = rowsOf(table);
        if (Math.abs((long) place) > MOST || Math.abs((long) value) > MOST) {
            throw new IllegalArgumentException();
        }
        if (rows.size() == 20) {
            throw new IllegalStateException();
        }
        if (!rows.isEmpty() && place <= rows.lastKey()) {
            return -1;
        }
        rows.put(place, value);
        return rows.size();
    }

    long at(int table, int place) {
        TreeMap<Integer, Integer> rows = rowsOf(table);
        Map.Entry<Integer, Integer> before = rows.floorEntry(place);
        Map.Entry<Integer, Integer> behind = rows.ceilingEntry(place);
        if (before == null && behind == null) {
            return HouseFunctions.NONE;
        }
        if (before == null || behind == null) {
            return before == null ? behind.getValue() : before.getValue();
        }
        if (before.getKey().equals(behind.getKey())) {
            return before.getValue();
        }
        return onLine(before.getKey(), before.getValue(), behind.getKey(), behind.getValue(), place);
    }

    long join(int table, int other, int place) {
        long first = at(table, place);
        long second = at(other, place);
        boolean isNone = first == HouseFunctions.NONE || second == HouseFunctions.NONE;
        return isNone ? HouseFunctions.NONE : first - second;
    }

    /** The line's point as one fraction, rounded down as a whole. */
    private static long onLine(long s, long a, long t, long b, long place) {
        BigInteger below = BigInteger.valueOf(t - s);
        BigInteger above = BigInteger.valueOf(a).multiply(below)
                .add(BigInteger.valueOf(b - a).multiply(BigInteger.valueOf(place - s)));
        // mod is never below 0, so that what is left divides without a rest, rounded down.
        return above.subtract(above.mod(below)).divide(below).longValueExact();
    }

    private TreeMap<Integer, Integer> rowsOf(int table) {
        if (table < 0 || table >= tables.size()) {
            throw new IllegalArgumentException();
        }
        return tables.get(table);
    }
}
