import java.math.BigInteger;
import java.util.Random;

/** Promises 10, 11, 12 and 14, and of promise 1 that there are no tables. */
final class TableTest {
    private static final int MOST = 1000000000;
    private static final Check CHECK = new Check();

    public static void main(String[] args) {
        checkNoTables();
        checkTables();
        checkRows();
        checkOrderOfExceptions();
        checkValues();
        checkWideLines();
        checkJoin();
        CHECK.end();
    }

    private static void checkNoTables() {
        HouseFunctions house = new HouseFunctions(7);
        for (int table : new int[] {0, 1, 5, 6, -1, Integer.MAX_VALUE, Integer.MIN_VALUE}) {
            CHECK.dueIllegalArgument("at(" + table + ", 0)", () -> house.at(table, 0));
            CHECK.dueIllegalArgument("row(" + table + ", 0, 0)", () -> house.row(table, 0, 0));
            CHECK.dueIllegalArgument("join(" + table + ", 0, 0)", () -> house.join(table, table, 0));
        }
    }

    private static void checkTables() {
        HouseFunctions house = new HouseFunctions(7);
        for (int i = 0; i < 6; i++) {
            int next = i;
            CHECK.dueIllegalArgument("at(" + next + ", 0)", () -> house.at(next, 0));
            CHECK.due("table()", house.table(), i);
            CHECK.due("at(" + i + ", 0)", house.at(i, 0), HouseFunctions.NONE);
        }
        CHECK.dueIllegalState("table()", house::table);
        CHECK.dueIllegalState("table()", house::table);
        CHECK.dueIllegalArgument("at(6, 0)", () -> house.at(6, 0));
        CHECK.dueIllegalArgument("at(-1, 0)", () -> house.at(-1, 0));
        CHECK.due("row(5, 3, 4)", house.row(5, 3, 4), 1);
        CHECK.due("at(5, 3)", house.at(5, 3), 4);
        CHECK.due("at(4, 3)", house.at(4, 3), HouseFunctions.NONE);
        CHECK.due("another object's table()", new HouseFunctions(7).table(), 0);
    }

    private static void checkRows() {
        HouseFunctions house = new HouseFunctions(7);
        house.table();
        for (int i = 0; i < 20; i++) {
            CHECK.due("row " + i, house.row(0, 10 * i, i), i + 1);
            if (i < 19) {
                CHECK.due("row at the last place", house.row(0, 10 * i, 99), -1);
                CHECK.due("row before the last place", house.row(0, 10 * i - 1, 99), -1);
                CHECK.due("row before all", house.row(0, -MOST, 99), -1);
            }
        }
        for (int i = 0; i < 20; i++) {
            CHECK.due("at(0, " + 10 * i + ")", house.at(0, 10 * i), i);
        }
        CHECK.dueIllegalState("row 21", () -> house.row(0, 1000, 1));
        CHECK.due("at(0, 1000)", house.at(0, 1000), 19);
    }

    private static void checkOrderOfExceptions() {
        HouseFunctions house = new HouseFunctions(7);
        house.table();
        int[] outside = {MOST + 1, -MOST - 1, Integer.MAX_VALUE, Integer.MIN_VALUE};
        for (int n : outside) {
            CHECK.dueIllegalArgument("row(0, " + n + ", 0)", () -> house.row(0, n, 0));
            CHECK.dueIllegalArgument("row(0, 0, " + n + ")", () -> house.row(0, 0, n));
        }
        CHECK.due("at(0, 0)", house.at(0, 0), HouseFunctions.NONE);
        for (int i = 0; i < 20; i++) {
            house.row(0, i, i);
        }
        CHECK.dueIllegalState("full, at the last place", () -> house.row(0, 19, 1));
        CHECK.dueIllegalState("full, before the last place", () -> house.row(0, -5, 1));
        for (int n : outside) {
            CHECK.dueIllegalArgument("full, row(0, " + n + ", 0)", () -> house.row(0, n, 0));
            CHECK.dueIllegalArgument("full, row(0, 30, " + n + ")", () -> house.row(0, 30, n));
        }
        CHECK.dueIllegalArgument("full, row(1, 30, 1)", () -> house.row(1, 30, 1));
        CHECK.due("at(0, 30)", house.at(0, 30), 19);
    }

    private static void checkValues() {
        HouseFunctions house = new HouseFunctions(7);
        house.table();
        house.row(0, 5, 100);
        CHECK.due("one row, before", house.at(0, Integer.MIN_VALUE), 100);
        CHECK.due("one row, on", house.at(0, 5), 100);
        CHECK.due("one row, behind", house.at(0, Integer.MAX_VALUE), 100);
        house.row(0, 8, 90);
        house.row(0, 11, -1);
        long[] due = {100, 100, 96, 93, 90, 59, 29, -1, -1};
        for (int place = 4; place <= 12; place++) {
            CHECK.due("at(0, " + place + ")", house.at(0, place), due[place - 4]);
        }
        CHECK.due("before all", house.at(0, Integer.MIN_VALUE), 100);
        CHECK.due("behind all", house.at(0, Integer.MAX_VALUE), -1);
    }

    private static void checkWideLines() {
        Random random = new Random(10);
        for (int i = 0; i < 400; i++) {
            HouseFunctions house = new HouseFunctions(i);
            house.table();
            int s = i == 0 ? -MOST : random.nextInt(MOST) - MOST;
            int t = i == 0 ? MOST : random.nextInt(MOST) + 1;
            int a = i < 2 ? MOST : random.nextInt(2 * MOST) - MOST;
            int b = i < 2 ? -MOST : random.nextInt(2 * MOST) - MOST;
            house.row(0, s, a);
            house.row(0, t, b);
            CHECK.due("at the first", house.at(0, s), a);
            CHECK.due("at the last", house.at(0, t), b);
            for (int place : new int[] {s + 1, t - 1, random.nextInt(t), 0, -1 - random.nextInt(1 - s)}) {
                if (place >= s) {
                    CHECK.due("line " + i + " at " + place, house.at(0, place), onLine(s, a, t, b, place));
                }
            }
        }
    }

    private static long onLine(long s, long a, long t, long b, long place) {
        BigInteger above = BigInteger.valueOf(b - a).multiply(BigInteger.valueOf(place - s));
        BigInteger[] parts = above.divideAndRemainder(BigInteger.valueOf(t - s));
        return a + parts[0].longValueExact() - (parts[1].signum() < 0 ? 1 : 0);
    }

    private static void checkJoin() {
        HouseFunctions house = new HouseFunctions(7);
        house.table();
        CHECK.due("join of one without rows", house.join(0, 0, 5), HouseFunctions.NONE);
        house.table();
        house.row(0, 0, 10);
        house.row(0, 3, 0);
        CHECK.due("the other has none", house.join(0, 1, 0), HouseFunctions.NONE);
        CHECK.due("the first has none", house.join(1, 0, 0), HouseFunctions.NONE);
        house.row(1, 0, -10);
        house.row(1, 3, 0);
        // 6 and -7: each is rounded down by itself.
        CHECK.due("join(0, 1, 1)", house.join(0, 1, 1), 13);
        CHECK.due("join(1, 0, 1)", house.join(1, 0, 1), -13);
        CHECK.due("join(0, 0, 1)", house.join(0, 0, 1), 0);
        CHECK.due("join(0, 1, least)", house.join(0, 1, Integer.MIN_VALUE), 20);
        CHECK.due("join(0, 1, greatest)", house.join(0, 1, Integer.MAX_VALUE), 0);
        for (int table : new int[] {2, -1, 6, Integer.MAX_VALUE, Integer.MIN_VALUE}) {
            CHECK.dueIllegalArgument("join(" + table + ", 0, 1)", () -> house.join(table, 0, 1));
            CHECK.dueIllegalArgument("join(0, " + table + ", 1)", () -> house.join(0, table, 1));
        }
        house.table();
        house.table();
        CHECK.due("row", house.row(2, 0, MOST), 1);
        CHECK.due("row", house.row(3, 0, -MOST), 1);
        CHECK.due("join(2, 3, 0)", house.join(2, 3, 0), 2L * MOST);
        CHECK.due("join(3, 2, 0)", house.join(3, 2, 0), -2L * MOST);
        CHECK.dueIllegalArgument("an empty table and none", () -> house.join(0, 4, 0));
    }
}
