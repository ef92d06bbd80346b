import java.util.StringJoiner;

/**
 * Everything that can be asked of an object, as a text: two objects of the
 * same state have the same one. Taking it uses the object up: some 150 calls,
 * that also fill it with rows and tables to see how many it had.
 */
final class Portrait {
    private static final int[] PLACES = {
        Integer.MIN_VALUE, -1000000000, -11, -1, 0, 1, 5, 9, 10, 19, 20, 1000000000, Integer.MAX_VALUE
    };

    private final StringJoiner lines = new StringJoiner(" ");

    private Portrait() {
    }

    static String of(HouseFunctions house) {
        Portrait portrait = new Portrait();
        portrait.addFunctions(house);
        portrait.addTables(house);
        portrait.addRoom(house);
        return portrait.lines.toString();
    }

    private void addFunctions(HouseFunctions house) {
        add("power", () -> house.power(1234567));
        add("logarithm", () -> house.logarithm(987654321L));
        add("sine", () -> house.sine(-7654321));
        add("cosine", () -> house.cosine(87654321));
        add("angle", () -> house.angle(-345, -67890));
        add("root", () -> house.root(123456789012L, 3));
        add("damp", () -> house.damp(1777, 6543));
        add("dew", () -> house.dew(1234567));
        add("drawn", () -> house.drawn(-5, 9));
    }

    private void addTables(HouseFunctions house) {
        for (int i = 0; i < 7; i++) {
            int table = i;
            for (int place : PLACES) {
                add("at " + table + " " + place, () -> house.at(table, place));
            }
            add("join " + table, () -> house.join(table, 0, 3));
        }
    }

    /** The last place, as near as the row that is tried tells it; how many rows; how many tables. */
    private void addRoom(HouseFunctions house) {
        for (int i = 0; i < 7; i++) {
            int table = i;
            for (int place : new int[] {-1000000000, 19, 20, 21, 999999999}) {
                add("row " + table + " " + place, () -> house.row(table, place, -3));
            }
        }
        for (int i = 0; i < 7; i++) {
            add("table", house::table);
        }
    }

    private void add(String name, Check.Call call) {
        String answer;
        try {
            answer = Long.toString(call.answer());
        } catch (RuntimeException thrown) {
            answer = thrown.getClass().getSimpleName();
        }
        lines.add(name + "=" + answer);
    }
}
