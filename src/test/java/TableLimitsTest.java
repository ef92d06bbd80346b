/** Tables and rows: empty, full, the places that go in and those beside the rows. */
final class TableLimitsTest {
    private static final int BILLION = 1000000000;
    private static final Check CHECK = new Check();

    public static void main(String[] args) {
        noTables();
        asTheyCome();
        thereAreSix();
        noSuchTableAt();
        noSuchTableRow();
        noSuchTableJoin();
        howManyRows();
        notAboveTheLast();
        firstRowAnywhere();
        nothingAboveTheGreatestPlace();
        twentyAtMost();
        twentyBeforeThePlace();
        eachTableItsOwnRows();
        valueOfRow();
        beforeTheFirst();
        behindTheLast();
        betweenTwoRows();
        widestLine();
        firstLessOther();
        CHECK.end();
    }

    private static void noTables() {
        CHECK.sentence("A seed; no tables");
        for (long seed : new long[] {0, 1, -1, Long.MAX_VALUE, Long.MIN_VALUE}) {
            HouseFunctions house = new HouseFunctions(seed);
            CHECK.dueIllegalArgument("at(0, 0)", () -> house.at(0, 0));
            CHECK.dueIllegalArgument("row(0, 0, 0)", () -> house.row(0, 0, 0));
            CHECK.dueIllegalArgument("join(0, 0, 0)", () -> house.join(0, 0, 0));
            CHECK.due("the first table()", house.table(), 0);
            CHECK.due("at(0, 0)", house.at(0, 0), HouseFunctions.NONE);
        }
    }

    private static void asTheyCome() {
        CHECK.sentence("TABLES 0 .. 5, as they come");
        HouseFunctions house = new HouseFunctions(1);
        HouseFunctions another = new HouseFunctions(1);
        for (int i = 0; i < 6; i++) {
            CHECK.due("table()", house.table(), i);
            house.row(i, 0, i);
        }
        CHECK.due("another object's table()", another.table(), 0);
    }

    private static void thereAreSix() {
        CHECK.sentence("A table: its number. Illegal state: there are 6");
        HouseFunctions house = new HouseFunctions(1);
        for (int i = 0; i < 5; i++) {
            house.table();
        }
        CHECK.due("the sixth table()", house.table(), 5);
        for (int i = 0; i < 3; i++) {
            CHECK.dueIllegalState("a seventh table()", house::table);
        }
        CHECK.dueIllegalArgument("at(6, 0)", () -> house.at(6, 0));
        CHECK.due("row(5, 0, 9)", house.row(5, 0, 9), 1);
        CHECK.due("at(5, 0)", house.at(5, 0), 9);
    }

    private static void noSuchTableAt() {
        CHECK.sentence("illegal argument: there is no such table: at");
        for (int count = 0; count <= 6; count++) {
            HouseFunctions house = withTables(count);
            for (int table : beside(count)) {
                CHECK.dueIllegalArgument(count + " tables: at(" + table + ", 0)", () -> house.at(table, 0));
            }
            for (int table = 0; table < count; table++) {
                CHECK.due(count + " tables: at(" + table + ", 0)", house.at(table, 0), HouseFunctions.NONE);
            }
        }
    }

    private static void noSuchTableRow() {
        CHECK.sentence("illegal argument: there is no such table: row");
        for (int count = 0; count <= 6; count++) {
            HouseFunctions house = withTables(count);
            for (int table : beside(count)) {
                CHECK.dueIllegalArgument(count + " tables: row(" + table + ", 0, 0)", () -> house.row(table, 0, 0));
            }
            for (int table = 0; table < count; table++) {
                CHECK.due(count + " tables: row(" + table + ", 0, 0)", house.row(table, 0, 0), 1);
            }
        }
    }

    private static void noSuchTableJoin() {
        CHECK.sentence("illegal argument: there is no such table: join");
        for (int count = 0; count <= 6; count++) {
            HouseFunctions house = withTables(count);
            for (int table : beside(count)) {
                CHECK.dueIllegalArgument(count + " tables: join(" + table + ", " + table + ", 0)",
                        () -> house.join(table, table, 0));
                CHECK.dueIllegalArgument(count + " tables: join(0, " + table + ", 0)",
                        () -> house.join(0, table, 0));
                CHECK.dueIllegalArgument(count + " tables: join(" + table + ", 0, 0)",
                        () -> house.join(table, 0, 0));
            }
            if (count > 0) {
                CHECK.due(count + " tables: join(0, last, 0)", house.join(0, count - 1, 0), HouseFunctions.NONE);
            }
        }
    }

    private static void howManyRows() {
        CHECK.sentence("A row of a table: how many it has");
        HouseFunctions house = withTables(1);
        for (int i = 1; i <= 20; i++) {
            CHECK.due("row " + i, house.row(0, i, -i), i);
        }
    }

    private static void notAboveTheLast() {
        CHECK.sentence("-1, changing nothing, if its place is not above the last one's");
        HouseFunctions house = withTables(1);
        CHECK.due("row(0, 10, 100)", house.row(0, 10, 100), 1);
        CHECK.due("the last one's place", house.row(0, 10, 777), -1);
        CHECK.due("the last one's row again", house.row(0, 10, 100), -1);
        CHECK.due("one before it", house.row(0, 9, 777), -1);
        CHECK.due("below 0", house.row(0, -10, 777), -1);
        CHECK.due("the least place", house.row(0, -BILLION, 777), -1);
        CHECK.due("at(0, 10)", house.at(0, 10), 100);
        CHECK.due("at(0, 9)", house.at(0, 9), 100);
        CHECK.due("one above it", house.row(0, 11, 200), 2);
        CHECK.due("above the first, not the last", house.row(0, 11, 777), -1);
        CHECK.due("between nothing and the last", house.row(0, 10, 777), -1);
        CHECK.due("at(0, 11)", house.at(0, 11), 200);
        CHECK.due("one above that", house.row(0, 12, 300), 3);
    }

    private static void firstRowAnywhere() {
        CHECK.sentence("-1 .. if its place is not above the last one's: without a row there is no last one");
        int[] places = {-BILLION, -1, 0, 1, BILLION};
        HouseFunctions house = withTables(places.length);
        for (int i = 0; i < places.length; i++) {
            CHECK.due("row(" + i + ", " + places[i] + ", 3)", house.row(i, places[i], 3), 1);
            CHECK.due("at(" + i + ", " + places[i] + ")", house.at(i, places[i]), 3);
        }
    }

    private static void nothingAboveTheGreatestPlace() {
        CHECK.sentence("-1 .. if its place is not above the last one's: none is above 10^9");
        HouseFunctions house = withTables(1);
        CHECK.due("row(0, 10^9, 1)", house.row(0, BILLION, 1), 1);
        CHECK.due("row(0, 10^9, 2)", house.row(0, BILLION, 2), -1);
        CHECK.dueIllegalArgument("row(0, 10^9 + 1, 2)", () -> house.row(0, BILLION + 1, 2));
        CHECK.due("at(0, 10^9)", house.at(0, BILLION), 1);
    }

    private static void twentyAtMost() {
        CHECK.sentence("by rising places, 20 at most; illegal state: it has 20");
        HouseFunctions house = withTables(2);
        for (int i = 0; i < 19; i++) {
            house.row(0, i, i);
        }
        CHECK.due("not above, with 19", house.row(0, 18, 777), -1);
        CHECK.due("the 20th", house.row(0, 19, 19), 20);
        for (int place : new int[] {20, 21, BILLION}) {
            CHECK.dueIllegalState("a 21st at " + place, () -> house.row(0, place, 777));
        }
        CHECK.due("at(0, 19)", house.at(0, 19), 19);
        CHECK.due("at(0, 20)", house.at(0, 20), 19);
        CHECK.due("another table's first row", house.row(1, 20, 5), 1);
    }

    private static void twentyBeforeThePlace() {
        CHECK.sentence("illegal state: it has 20 (looked at before the place)");
        HouseFunctions house = withTables(1);
        for (int i = 0; i < 20; i++) {
            house.row(0, i, i);
        }
        for (int place : new int[] {19, 18, 0, -1, -BILLION}) {
            CHECK.dueIllegalState("with 20, row(0, " + place + ", 777)", () -> house.row(0, place, 777));
        }
        CHECK.due("at(0, 19)", house.at(0, 19), 19);
        CHECK.due("at(0, -10^9)", house.at(0, -BILLION), 0);
    }

    private static void eachTableItsOwnRows() {
        CHECK.sentence("TABLES .. each with ROWS");
        HouseFunctions house = withTables(6);
        for (int row = 0; row < 20; row++) {
            for (int table = 0; table < 6; table++) {
                CHECK.due("row " + row + " of " + table,
                        house.row(table, row * (table + 1), 100 * table + row), row + 1);
            }
        }
        for (int row = 0; row < 20; row++) {
            for (int table = 0; table < 6; table++) {
                CHECK.due("at(" + table + ", row " + row + ")", house.at(table, row * (table + 1)), 100 * table + row);
            }
        }
        for (int table = 0; table < 6; table++) {
            int full = table;
            CHECK.dueIllegalState("a 21st of " + full, () -> house.row(full, BILLION, 1));
        }
    }

    private static void valueOfRow() {
        CHECK.sentence("The VALUE at a place is that of a row");
        int[] values = {BILLION, -BILLION, 0, 7, -7, BILLION, BILLION, -1, 1, 2,
            3, -BILLION, -BILLION, 5, 0, 0, 9, -9, BILLION, -BILLION};
        HouseFunctions house = withTables(1);
        for (int i = 0; i < 20; i++) {
            house.row(0, 3 * i - 30, values[i]);
        }
        for (int i = 0; i < 20; i++) {
            CHECK.due("at row " + i, house.at(0, 3 * i - 30), values[i]);
        }
    }

    private static void beforeTheFirst() {
        CHECK.sentence("before the first row .. that one's");
        HouseFunctions house = withTables(1);
        for (int i = 0; i < 20; i++) {
            house.row(0, 10 * i, 1000 - 300 * i);
            for (int place : new int[] {-1, -2, -BILLION, -BILLION - 1, Integer.MIN_VALUE}) {
                CHECK.due((i + 1) + " rows, at(0, " + place + ")", house.at(0, place), 1000);
            }
        }
    }

    private static void behindTheLast() {
        CHECK.sentence("and behind the last one, that one's");
        HouseFunctions house = withTables(1);
        for (int i = 0; i < 20; i++) {
            int last = 10 * i;
            house.row(0, last, 1000 - 300 * i);
            for (int place : new int[] {last + 1, last + 2, BILLION, BILLION + 1, Integer.MAX_VALUE}) {
                CHECK.due((i + 1) + " rows, at(0, " + place + ")", house.at(0, place), 1000 - 300 * i);
            }
        }
    }

    private static void betweenTwoRows() {
        CHECK.sentence("between two rows a and b at the places s and t it is a + (b - a) (place - s) / (t - s)");
        HouseFunctions house = withTables(1);
        for (int i = 0; i < 20; i++) {
            house.row(0, 4 * i, (i & 1) == 0 ? 0 : 8);
        }
        for (int i = 0; i < 19; i++) {
            boolean isRising = (i & 1) == 0;
            CHECK.due("just behind row " + i, house.at(0, 4 * i + 1), isRising ? 2 : 6);
            CHECK.due("amid rows " + i + " and " + (i + 1), house.at(0, 4 * i + 2), 4);
            CHECK.due("just before row " + (i + 1), house.at(0, 4 * i + 3), isRising ? 6 : 2);
        }
    }

    private static void widestLine() {
        CHECK.sentence("a + (b - a) (place - s) / (t - s): the widest");
        HouseFunctions house = withTables(3);
        house.row(0, -BILLION, BILLION);
        house.row(0, BILLION, -BILLION);
        CHECK.due("falling, at(0, 0)", house.at(0, 0), 0);
        CHECK.due("falling, at(0, -10^9 + 1)", house.at(0, -BILLION + 1), BILLION - 1);
        CHECK.due("falling, at(0, 10^9 - 1)", house.at(0, BILLION - 1), -BILLION + 1);
        house.row(1, -BILLION, -BILLION);
        house.row(1, BILLION, BILLION - 1);
        CHECK.due("rising, at(1, 0)", house.at(1, 0), -1);
        CHECK.due("rising, at(1, -10^9 + 1)", house.at(1, -BILLION + 1), -BILLION);
        CHECK.due("rising, at(1, 10^9 - 1)", house.at(1, BILLION - 1), BILLION - 2);
        house.row(2, 0, -BILLION);
        house.row(2, 1, BILLION);
        CHECK.due("steepest, at(2, 0)", house.at(2, 0), -BILLION);
        CHECK.due("steepest, at(2, 1)", house.at(2, 1), BILLION);
    }

    private static void firstLessOther() {
        CHECK.sentence("the first one's less the other's");
        HouseFunctions house = withTables(4);
        house.row(0, 0, BILLION);
        house.row(1, 0, -BILLION);
        house.row(2, 0, 10);
        house.row(2, 3, 0);
        house.row(3, 0, -10);
        house.row(3, 3, 0);
        CHECK.due("join(0, 1, 0)", house.join(0, 1, 0), 2L * BILLION);
        CHECK.due("join(1, 0, 0)", house.join(1, 0, 0), -2L * BILLION);
        CHECK.due("join(0, 0, 0)", house.join(0, 0, 0), 0);
        // 6 and -7: the values, each rounded down, and not their lines' difference.
        CHECK.due("join(2, 3, 1)", house.join(2, 3, 1), 13);
        CHECK.due("join(3, 2, 1)", house.join(3, 2, 1), -13);
        CHECK.due("join(2, 3, -5)", house.join(2, 3, -5), 20);
        CHECK.due("join(2, 3, 5)", house.join(2, 3, 5), 0);
    }

    private static HouseFunctions withTables(int count) {
        HouseFunctions house = new HouseFunctions(1);
        for (int i = 0; i < count; i++) {
            house.table();
        }
        return house;
    }

    /** Numbers that no table has if there are so many. */
    private static int[] beside(int count) {
        return new int[] {-1, -2, count, count + 1, 6, 7, Integer.MIN_VALUE, Integer.MAX_VALUE};
    }
}
