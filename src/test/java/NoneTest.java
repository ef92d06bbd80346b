/** "`NONE = -9223372036854775808L`: There is none": where it is due, and where it is not any more. */
final class NoneTest {
    private static final long NONE = -9223372036854775808L;
    private static final Check CHECK = new Check();

    public static void main(String[] args) {
        constant();
        logarithm();
        angle();
        dew();
        at();
        joinOfFirst();
        joinOfOther();
        joinOfBoth();
        CHECK.end();
    }

    private static void constant() {
        CHECK.sentence("The constants: `NONE = -9223372036854775808L`");
        CHECK.due("NONE", HouseFunctions.NONE, NONE);
    }

    private static void logarithm() {
        CHECK.sentence("NONE if v is 0 or less");
        HouseFunctions house = new HouseFunctions(1);
        long[] none = {0, -1, -2, -1000000, -1000000000000L, -1000000000001L, Integer.MIN_VALUE,
            Long.MIN_VALUE + 1, Long.MIN_VALUE};
        for (long v : none) {
            CHECK.due("logarithm(" + v + ")", house.logarithm(v), NONE);
        }
        CHECK.due("logarithm(1)", house.logarithm(1), -13815510558L);
    }

    private static void angle() {
        CHECK.sentence("NONE of (0, 0)");
        HouseFunctions house = new HouseFunctions(1);
        CHECK.due("angle(0, 0)", house.angle(0, 0), NONE);
        CHECK.due("angle(0, 1)", house.angle(0, 1), 0);
        CHECK.due("angle(0, -1)", house.angle(0, -1), 3141592653L);
        CHECK.due("angle(1, 0)", house.angle(1, 0), 1570796326);
        CHECK.due("angle(-1, 0)", house.angle(-1, 0), -1570796327);
    }

    private static void dew() {
        CHECK.sentence("the warmth; NONE if there is none");
        HouseFunctions house = new HouseFunctions(1);
        for (int pressure : new int[] {0, 1, 18966, 18967}) {
            CHECK.due("dew(" + pressure + ")", house.dew(pressure), NONE);
        }
        CHECK.due("dew(18968)", house.dew(18968), -4000);
    }

    private static void at() {
        CHECK.sentence("The VALUE of a table at a place (any); NONE if it has no row");
        HouseFunctions house = new HouseFunctions(1);
        for (int table = 0; table < 6; table++) {
            house.table();
            for (int place : new int[] {0, 1, -1, Integer.MIN_VALUE, Integer.MAX_VALUE}) {
                CHECK.due("at(" + table + ", " + place + ")", house.at(table, place), NONE);
            }
        }
        house.row(3, 0, 0);
        CHECK.due("with a row, at(3, 0)", house.at(3, 0), 0);
        CHECK.due("with a row, at(3, 9)", house.at(3, 9), 0);
        CHECK.due("the one before, at(2, 0)", house.at(2, 0), NONE);
        CHECK.due("the one behind, at(4, 0)", house.at(4, 0), NONE);
    }

    private static void joinOfFirst() {
        CHECK.sentence("NONE if one of them has none: the first");
        HouseFunctions house = twoTables();
        house.row(1, 0, 5);
        for (int place : new int[] {0, 1, -1, Integer.MIN_VALUE, Integer.MAX_VALUE}) {
            CHECK.due("join(0, 1, " + place + ")", house.join(0, 1, place), NONE);
        }
        house.row(0, 0, 5);
        CHECK.due("both have one, join(0, 1, 0)", house.join(0, 1, 0), 0);
    }

    private static void joinOfOther() {
        CHECK.sentence("NONE if one of them has none: the other");
        HouseFunctions house = twoTables();
        house.row(0, 0, 5);
        for (int place : new int[] {0, 1, -1, Integer.MIN_VALUE, Integer.MAX_VALUE}) {
            CHECK.due("join(0, 1, " + place + ")", house.join(0, 1, place), NONE);
        }
        house.row(1, 0, 6);
        CHECK.due("both have one, join(0, 1, 0)", house.join(0, 1, 0), -1);
    }

    // The difference of NONE and NONE would be 0.
    private static void joinOfBoth() {
        CHECK.sentence("NONE if one of them has none: both");
        HouseFunctions house = twoTables();
        CHECK.due("join(0, 1, 0)", house.join(0, 1, 0), NONE);
        CHECK.due("join(1, 0, 0)", house.join(1, 0, 0), NONE);
        CHECK.due("join(0, 0, 0)", house.join(0, 0, 0), NONE);
        house.row(0, 0, 5);
        CHECK.due("with a row, join(0, 0, 0)", house.join(0, 0, 0), 0);
    }

    private static HouseFunctions twoTables() {
        HouseFunctions house = new HouseFunctions(1);
        house.table();
        house.table();
        return house;
    }
}
