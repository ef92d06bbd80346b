/**
 * "Of several exceptions the one named first is thrown; a call that throws
 * changes nothing."
 */
final class RefusedCallsTest {
    private static final int BILLION = 1000000000;
    private static final long TRILLION = 1000000000000L;
    private static final int STATES = 5;
    private static final Check CHECK = new Check();

    /** A call on an object that is given later. */
    private interface Asked {
        long of(HouseFunctions house);
    }

    public static void main(String[] args) {
        argumentBeforeState();
        argumentBeforeMinusOne();
        argumentBeforeNone();
        portraitsTell();
        refusedArgumentsChangeNothing();
        refusedTablesChangeNothing();
        refusedRowsChangeNothing();
        seventhTableChangesNothing();
        fullTableChangesNothing();
        minusOneChangesNothing();
        answersChangeNothing();
        CHECK.end();
    }

    private static void argumentBeforeState() {
        CHECK.sentence("Of several exceptions the one named first is thrown: illegal argument; illegal state");
        HouseFunctions house = inState(4);
        for (int n : new int[] {BILLION + 1, -BILLION - 1, Integer.MAX_VALUE, Integer.MIN_VALUE}) {
            CHECK.dueIllegalArgument("with 20, row(0, " + n + ", 1)", () -> house.row(0, n, 1));
            CHECK.dueIllegalArgument("with 20, row(0, 30, " + n + ")", () -> house.row(0, 30, n));
            CHECK.dueIllegalArgument("with 20, not above, row(0, 0, " + n + ")", () -> house.row(0, 0, n));
            CHECK.dueIllegalArgument("with 20, row(0, " + n + ", " + n + ")", () -> house.row(0, n, n));
        }
        for (int table : new int[] {6, -1, Integer.MAX_VALUE, Integer.MIN_VALUE}) {
            CHECK.dueIllegalArgument("6 full tables, row(" + table + ", 30, 1)", () -> house.row(table, 30, 1));
        }
        CHECK.dueIllegalState("with 20, row(0, 30, 1)", () -> house.row(0, 30, 1));
    }

    private static void argumentBeforeMinusOne() {
        CHECK.sentence("illegal argument: a number is out of its bounds: also where the place is not above");
        HouseFunctions house = inState(2);
        CHECK.due("row(0, -10^9, 1)", house.row(0, -BILLION, 1), -1);
        CHECK.dueIllegalArgument("row(0, -10^9 - 1, 1)", () -> house.row(0, -BILLION - 1, 1));
        CHECK.dueIllegalArgument("row(0, least, 1)", () -> house.row(0, Integer.MIN_VALUE, 1));
        CHECK.dueIllegalArgument("row(0, -5, 10^9 + 1)", () -> house.row(0, -5, BILLION + 1));
        CHECK.dueIllegalArgument("row(0, -5, -10^9 - 1)", () -> house.row(0, -5, -BILLION - 1));
    }

    private static void argumentBeforeNone() {
        CHECK.sentence("illegal argument: also where there is none");
        HouseFunctions house = inState(1);
        CHECK.dueIllegalArgument("join(0, 1, 0), 0 without a row", () -> house.join(0, 1, 0));
        CHECK.dueIllegalArgument("join(1, 0, 0), 0 without a row", () -> house.join(1, 0, 0));
        CHECK.dueIllegalArgument("join(-1, 0, 0), 0 without a row", () -> house.join(-1, 0, 0));
        CHECK.dueIllegalArgument("angle(0, 1000001)", () -> house.angle(0, 1000001));
        CHECK.dueIllegalArgument("angle(1000001, 0)", () -> house.angle(1000001, 0));
        CHECK.dueIllegalArgument("dew(-1)", () -> house.dew(-1));
    }

    // Otherwise the comparisons below could not fail.
    private static void portraitsTell() {
        CHECK.sentence("(the portraits of two states differ)");
        for (int one = 0; one < STATES; one++) {
            for (int other = 0; other < STATES; other++) {
                CHECK.dueTrue("states " + one + " and " + other,
                        Portrait.of(inState(one)).equals(Portrait.of(inState(other))) == (one == other));
            }
        }
        Asked[] changes = {
            HouseFunctions::table, house -> house.row(0, 30, 100), house -> house.row(0, 30, 101),
            house -> house.row(0, 31, 100), house -> house.row(1, 30, 100)
        };
        String[] seen = new String[changes.length + 1];
        seen[0] = Portrait.of(inState(2));
        for (int i = 0; i < changes.length; i++) {
            HouseFunctions house = inState(2);
            changes[i].of(house);
            seen[i + 1] = Portrait.of(house);
            for (int j = 0; j <= i; j++) {
                CHECK.dueTrue("changes " + j + " and " + (i + 1), !seen[i + 1].equals(seen[j]));
            }
        }
    }

    private static void refusedArgumentsChangeNothing() {
        CHECK.sentence("a call that throws changes nothing: a number is out of its bounds");
        Asked[] refused = {
            house -> house.power(20000001), house -> house.power(-20000001),
            house -> house.logarithm(TRILLION + 1),
            house -> house.sine(100000001), house -> house.sine(-100000001),
            house -> house.cosine(100000001), house -> house.cosine(-100000001),
            house -> house.angle(1000001, 0), house -> house.angle(-1000001, 0),
            house -> house.angle(0, 1000001), house -> house.angle(0, -1000001),
            house -> house.root(-1, 2), house -> house.root(TRILLION + 1, 2),
            house -> house.root(5, 1), house -> house.root(5, 6),
            house -> house.damp(-4001, 5), house -> house.damp(10001, 5),
            house -> house.damp(5, -1), house -> house.damp(5, 10001),
            house -> house.dew(-1), house -> house.dew(BILLION + 1)
        };
        for (int state = 0; state < STATES; state++) {
            for (int i = 0; i < refused.length; i++) {
                dueUnchanged("argument " + i, state, refused[i], IllegalArgumentException.class);
            }
        }
    }

    private static void refusedTablesChangeNothing() {
        CHECK.sentence("a call that throws changes nothing: there is no such table");
        Asked[] refused = {
            house -> house.at(-1, 0), house -> house.at(6, 0),
            house -> house.at(Integer.MAX_VALUE, 0), house -> house.at(Integer.MIN_VALUE, 0),
            house -> house.join(-1, 0, 0), house -> house.join(6, 0, 0),
            house -> house.join(0, -1, 0), house -> house.join(0, 6, 0),
            house -> house.row(-1, 15, 1), house -> house.row(6, 15, 1),
            house -> house.row(Integer.MAX_VALUE, 15, 1), house -> house.row(Integer.MIN_VALUE, 15, 1)
        };
        for (int state = 0; state < STATES; state++) {
            for (int i = 0; i < refused.length; i++) {
                dueUnchanged("table " + i, state, refused[i], IllegalArgumentException.class);
            }
        }
        // The next table that could come must still come without a row.
        dueUnchanged("row(0, ..)", 0, house -> house.row(0, 15, 1), IllegalArgumentException.class);
        dueUnchanged("row(1, ..)", 1, house -> house.row(1, 15, 1), IllegalArgumentException.class);
        dueUnchanged("row(3, ..)", 2, house -> house.row(3, 15, 1), IllegalArgumentException.class);
    }

    private static void refusedRowsChangeNothing() {
        CHECK.sentence("a call that throws changes nothing: a row's place or value is out of its bounds");
        Asked[] refused = {
            house -> house.row(0, BILLION + 1, 1), house -> house.row(0, -BILLION - 1, 1),
            house -> house.row(0, 15, BILLION + 1), house -> house.row(0, 15, -BILLION - 1),
            house -> house.row(0, Integer.MAX_VALUE, Integer.MIN_VALUE)
        };
        for (int state = 0; state < STATES; state++) {
            for (int i = 0; i < refused.length; i++) {
                dueUnchanged("row " + i, state, refused[i], IllegalArgumentException.class);
            }
        }
    }

    private static void seventhTableChangesNothing() {
        CHECK.sentence("a call that throws changes nothing: there are 6");
        dueUnchanged("table()", 3, HouseFunctions::table, IllegalStateException.class);
        dueUnchanged("table()", 4, HouseFunctions::table, IllegalStateException.class);
    }

    private static void fullTableChangesNothing() {
        CHECK.sentence("a call that throws changes nothing: it has 20");
        for (int place : new int[] {-BILLION, 0, 19, 20, 15, BILLION}) {
            dueUnchanged("row(0, " + place + ", 1)", 4, house -> house.row(0, place, 1), IllegalStateException.class);
            dueUnchanged("row(5, " + place + ", 1)", 4, house -> house.row(5, place, 1), IllegalStateException.class);
        }
    }

    private static void minusOneChangesNothing() {
        CHECK.sentence("-1, changing nothing, if its place is not above the last one's");
        for (int place : new int[] {-BILLION, -1, 0, 9, 10}) {
            HouseFunctions house = inState(2);
            CHECK.due("row(0, " + place + ", 99)", house.row(0, place, 99), -1);
            CHECK.due("the object behind it", Portrait.of(house), Portrait.of(inState(2)));
        }
    }

    private static void answersChangeNothing() {
        CHECK.sentence("Nothing is promised beyond the answers and state changes described: only table and row change");
        Asked[] answered = {
            house -> house.power(5), house -> house.logarithm(0), house -> house.logarithm(7),
            house -> house.sine(7), house -> house.cosine(7), house -> house.angle(0, 0),
            house -> house.angle(3, 4), house -> house.root(0, 2), house -> house.root(9, 5),
            house -> house.damp(3, 3), house -> house.dew(0), house -> house.dew(BILLION),
            house -> house.at(0, 7), house -> house.join(0, 0, 7), house -> house.drawn(3, 3)
        };
        for (int state = 1; state < STATES; state++) {
            for (int i = 0; i < answered.length; i++) {
                HouseFunctions house = inState(state);
                answered[i].of(house);
                CHECK.due("state " + state + ", the object behind answer " + i,
                        Portrait.of(house), Portrait.of(inState(state)));
            }
        }
    }

    /** The call is refused, three times over, and the object is as one of which it was not asked. */
    private static void dueUnchanged(String name, int state, Asked call, Class<? extends RuntimeException> want) {
        HouseFunctions house = inState(state);
        for (int i = 0; i < 3; i++) {
            if (want == IllegalStateException.class) {
                CHECK.dueIllegalState("state " + state + ", " + name, () -> call.of(house));
            } else {
                CHECK.dueIllegalArgument("state " + state + ", " + name, () -> call.of(house));
            }
        }
        CHECK.due("state " + state + ", the object behind " + name, Portrait.of(house), Portrait.of(inState(state)));
    }

    /** 0: new; 1: an empty table; 2: some tables with rows; 3: six tables; 4: six full ones. */
    private static HouseFunctions inState(int state) {
        HouseFunctions house = new HouseFunctions(17);
        int[] tables = {0, 1, 3, 6, 6};
        int[] rows = {0, 0, 2, 1, 20};
        for (int table = 0; table < tables[state]; table++) {
            house.table();
            for (int row = 0; row < rows[state]; row++) {
                house.row(table, state == 4 ? row : 10 * row, 7 * row * row + table);
            }
        }
        return house;
    }
}
