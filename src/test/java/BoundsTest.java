/**
 * "In all calls illegal argument: a number is out of its bounds": for every
 * number that goes in, the last ones inside, answered, and the first ones
 * outside, refused, on either side.
 */
final class BoundsTest {
    private static final long TRILLION = 1000000000000L;
    private static final int BILLION = 1000000000;
    private static final int MILLION = 1000000;
    private static final Check CHECK = new Check();

    public static void main(String[] args) {
        power();
        logarithm();
        sine();
        cosine();
        angleUp();
        angleAlong();
        rootOfNumber();
        rootOfKind();
        dampByWarmth();
        dampByShare();
        dew();
        rowByPlace();
        rowByValue();
        atAnyPlace();
        joinAnyPlace();
        CHECK.end();
    }

    private static void power() {
        CHECK.sentence("THE POWER of x millionths (-20000000 .. 20000000)");
        CHECK.due("power(20000000)", NextHouse.get().power(20000000), 485165195409790277L);
        CHECK.due("power(19999999)", NextHouse.get().power(19999999), 485164710244837450L);
        CHECK.due("power(-20000000)", NextHouse.get().power(-20000000), 2);
        CHECK.due("power(-19999999)", NextHouse.get().power(-19999999), 2);
        for (int x : outside(-20000000, 20000000)) {
            CHECK.dueIllegalArgument("power(" + x + ")", () -> NextHouse.get().power(x));
        }
    }

    private static void logarithm() {
        CHECK.sentence("THE LOGARITHM of v millionths (up to 10^12)");
        CHECK.due("logarithm(10^12)", NextHouse.get().logarithm(TRILLION), 13815510557L);
        CHECK.due("logarithm(10^12 - 1)", NextHouse.get().logarithm(TRILLION - 1), 13815510557L);
        CHECK.due("logarithm(1)", NextHouse.get().logarithm(1), -13815510558L);
        CHECK.due("logarithm(2)", NextHouse.get().logarithm(2), -13122363378L);
        // Below there is no bound: 0 or less is answered (NoneTest).
        for (long v : new long[] {TRILLION + 1, TRILLION + 2, 2 * TRILLION, 1L << 62, Long.MAX_VALUE}) {
            CHECK.dueIllegalArgument("logarithm(" + v + ")", () -> NextHouse.get().logarithm(v));
        }
    }

    private static void sine() {
        CHECK.sentence("SINE of x millionths (-100000000 .. 100000000)");
        CHECK.due("sine(100000000)", NextHouse.get().sine(100000000), -506365642);
        CHECK.due("sine(99999999)", NextHouse.get().sine(99999999), -506366504);
        CHECK.due("sine(-100000000)", NextHouse.get().sine(-100000000), 506365641);
        CHECK.due("sine(-99999999)", NextHouse.get().sine(-99999999), 506366503);
        for (int x : outside(-100000000, 100000000)) {
            CHECK.dueIllegalArgument("sine(" + x + ")", () -> NextHouse.get().sine(x));
        }
    }

    private static void cosine() {
        CHECK.sentence("COSINE likewise");
        CHECK.due("cosine(100000000)", NextHouse.get().cosine(100000000), 862318872);
        CHECK.due("cosine(99999999)", NextHouse.get().cosine(99999999), 862318365);
        CHECK.due("cosine(-100000000)", NextHouse.get().cosine(-100000000), 862318872);
        CHECK.due("cosine(-99999999)", NextHouse.get().cosine(-99999999), 862318365);
        for (int x : outside(-100000000, 100000000)) {
            CHECK.dueIllegalArgument("cosine(" + x + ")", () -> NextHouse.get().cosine(x));
        }
    }

    private static void angleUp() {
        CHECK.sentence("THE ANGLE of (x, y), whole numbers -1000000 .. 1000000: y");
        CHECK.due("angle(1000000, 1)", NextHouse.get().angle(MILLION, 1), 1570795326);
        CHECK.due("angle(-1000000, 1)", NextHouse.get().angle(-MILLION, 1), -1570795327);
        CHECK.due("angle(1000000, 0)", NextHouse.get().angle(MILLION, 0), 1570796326);
        CHECK.due("angle(-1000000, 0)", NextHouse.get().angle(-MILLION, 0), -1570796327);
        for (int y : outside(-MILLION, MILLION)) {
            CHECK.dueIllegalArgument("angle(" + y + ", 0)", () -> NextHouse.get().angle(y, 0));
            CHECK.dueIllegalArgument("angle(" + y + ", 1000000)", () -> NextHouse.get().angle(y, MILLION));
            CHECK.dueIllegalArgument("angle(" + y + ", 1000001)", () -> NextHouse.get().angle(y, MILLION + 1));
        }
    }

    private static void angleAlong() {
        CHECK.sentence("THE ANGLE of (x, y), whole numbers -1000000 .. 1000000: x");
        CHECK.due("angle(1, 1000000)", NextHouse.get().angle(1, MILLION), 999);
        CHECK.due("angle(1, -1000000)", NextHouse.get().angle(1, -MILLION), 3141591653L);
        CHECK.due("angle(0, 1000000)", NextHouse.get().angle(0, MILLION), 0);
        CHECK.due("angle(0, -1000000)", NextHouse.get().angle(0, -MILLION), 3141592653L);
        for (int x : outside(-MILLION, MILLION)) {
            CHECK.dueIllegalArgument("angle(0, " + x + ")", () -> NextHouse.get().angle(0, x));
            CHECK.dueIllegalArgument("angle(-1000000, " + x + ")", () -> NextHouse.get().angle(-MILLION, x));
        }
    }

    private static void rootOfNumber() {
        CHECK.sentence("THE ROOT of v millionths (0 .. 10^12)");
        long[] most = {TRILLION, 100000000000L, 31622776601L, 15848931924L};
        for (int k = 2; k <= 5; k++) {
            int kind = k;
            CHECK.due("root(0, " + k + ")", NextHouse.get().root(0, k), 0);
            CHECK.due("root(10^12, " + k + ")", NextHouse.get().root(TRILLION, k), most[k - 2]);
            for (long v : new long[] {-1, -2, Long.MIN_VALUE, TRILLION + 1, TRILLION + 2, Long.MAX_VALUE}) {
                CHECK.dueIllegalArgument("root(" + v + ", " + k + ")", () -> NextHouse.get().root(v, kind));
            }
        }
    }

    private static void rootOfKind() {
        CHECK.sentence("THE ROOT of kind k (2 .. 5)");
        CHECK.due("root(64000000, 2)", NextHouse.get().root(64000000, 2), 8000000000L);
        CHECK.due("root(64000000, 3)", NextHouse.get().root(64000000, 3), 4000000000L);
        CHECK.due("root(81000000, 4)", NextHouse.get().root(81000000, 4), 3000000000L);
        CHECK.due("root(32000000, 5)", NextHouse.get().root(32000000, 5), 2000000000L);
        for (int k : new int[] {1, 0, -1, -2, 6, 7, Integer.MIN_VALUE, Integer.MAX_VALUE}) {
            CHECK.dueIllegalArgument("root(64000000, " + k + ")", () -> NextHouse.get().root(64000000, k));
            // Nothing is due by the number alone, though any root of it would be the same.
            CHECK.dueIllegalArgument("root(0, " + k + ")", () -> NextHouse.get().root(0, k));
            CHECK.dueIllegalArgument("root(-1, " + k + ")", () -> NextHouse.get().root(-1, k));
        }
    }

    private static void dampByWarmth() {
        CHECK.sentence("The PRESSURE at a warmth (-4000 .. 10000)");
        CHECK.due("damp(-4000, 10000)", NextHouse.get().damp(-4000, 10000), 18968);
        CHECK.due("damp(-3999, 10000)", NextHouse.get().damp(-3999, 10000), 18988);
        CHECK.due("damp(10000, 10000)", NextHouse.get().damp(10000, 10000), 104076714);
        CHECK.due("damp(9999, 10000)", NextHouse.get().damp(9999, 10000), 104038835);
        // -24304 would be a divisor of 0.
        for (int warmth : new int[] {-4001, -4002, -24303, -24304, -24305, 10001, 10002,
            Integer.MIN_VALUE, Integer.MAX_VALUE}) {
            CHECK.dueIllegalArgument("damp(" + warmth + ", 10000)", () -> NextHouse.get().damp(warmth, 10000));
            CHECK.dueIllegalArgument("damp(" + warmth + ", 0)", () -> NextHouse.get().damp(warmth, 0));
        }
    }

    private static void dampByShare() {
        CHECK.sentence("The PRESSURE at a share (0 .. 10000)");
        CHECK.due("damp(10000, 0)", NextHouse.get().damp(10000, 0), 0);
        CHECK.due("damp(-4000, 0)", NextHouse.get().damp(-4000, 0), 0);
        CHECK.due("damp(10000, 1)", NextHouse.get().damp(10000, 1), 10407);
        CHECK.due("damp(-4000, 1)", NextHouse.get().damp(-4000, 1), 1);
        CHECK.due("damp(10000, 9999)", NextHouse.get().damp(10000, 9999), 104066307);
        CHECK.due("damp(0, 10000)", NextHouse.get().damp(0, 10000), 610940);
        for (int share : outside(0, 10000)) {
            CHECK.dueIllegalArgument("damp(0, " + share + ")", () -> NextHouse.get().damp(0, share));
            CHECK.dueIllegalArgument("damp(10000, " + share + ")", () -> NextHouse.get().damp(10000, share));
            CHECK.dueIllegalArgument("damp(-4001, " + share + ")", () -> NextHouse.get().damp(-4001, share));
        }
    }

    private static void dew() {
        CHECK.sentence("THE DEW of a pressure in thousandths (0 .. 10^9)");
        CHECK.due("dew(0)", NextHouse.get().dew(0), HouseFunctions.NONE);
        CHECK.due("dew(10^9)", NextHouse.get().dew(BILLION), 10000);
        CHECK.due("dew(10^9 - 1)", NextHouse.get().dew(BILLION - 1), 10000);
        for (int pressure : outside(0, BILLION)) {
            CHECK.dueIllegalArgument("dew(" + pressure + ")", () -> NextHouse.get().dew(pressure));
        }
    }

    private static void rowByPlace() {
        CHECK.sentence("ROWS of a place and a value (-10^9 .. 10^9 each): the place");
        HouseFunctions house = new HouseFunctions(1);
        house.table();
        for (int place : outside(-BILLION, BILLION)) {
            CHECK.dueIllegalArgument("row(0, " + place + ", 1)", () -> house.row(0, place, 1));
        }
        CHECK.due("row(0, -10^9, 1)", house.row(0, -BILLION, 1), 1);
        CHECK.due("row(0, -10^9 + 1, 2)", house.row(0, -BILLION + 1, 2), 2);
        CHECK.due("row(0, 10^9 - 1, 3)", house.row(0, BILLION - 1, 3), 3);
        CHECK.due("row(0, 10^9, 4)", house.row(0, BILLION, 4), 4);
        CHECK.due("at(0, -10^9)", house.at(0, -BILLION), 1);
        CHECK.due("at(0, -10^9 + 1)", house.at(0, -BILLION + 1), 2);
        CHECK.due("at(0, 10^9 - 1)", house.at(0, BILLION - 1), 3);
        CHECK.due("at(0, 10^9)", house.at(0, BILLION), 4);
        for (int place : outside(-BILLION, BILLION)) {
            CHECK.dueIllegalArgument("behind 10^9: row(0, " + place + ", 1)", () -> house.row(0, place, 1));
        }
    }

    private static void rowByValue() {
        CHECK.sentence("ROWS of a place and a value (-10^9 .. 10^9 each): the value");
        HouseFunctions house = new HouseFunctions(1);
        house.table();
        for (int value : outside(-BILLION, BILLION)) {
            CHECK.dueIllegalArgument("row(0, 5, " + value + ")", () -> house.row(0, 5, value));
        }
        int[] inside = {-BILLION, -BILLION + 1, BILLION - 1, BILLION};
        for (int i = 0; i < inside.length; i++) {
            CHECK.due("row(0, " + i + ", " + inside[i] + ")", house.row(0, i, inside[i]), i + 1);
        }
        for (int i = 0; i < inside.length; i++) {
            CHECK.due("at(0, " + i + ")", house.at(0, i), inside[i]);
        }
    }

    private static void atAnyPlace() {
        CHECK.sentence("The VALUE of a table at a place (any)");
        HouseFunctions house = new HouseFunctions(1);
        house.table();
        house.row(0, -BILLION, 3);
        house.row(0, BILLION, 5);
        for (int place : outside(-BILLION, BILLION)) {
            CHECK.due("at(0, " + place + ")", house.at(0, place), place < 0 ? 3 : 5);
        }
    }

    private static void joinAnyPlace() {
        CHECK.sentence("The difference of a place's values in two tables, the place any");
        HouseFunctions house = new HouseFunctions(1);
        house.table();
        house.table();
        house.row(0, -BILLION, 3);
        house.row(0, BILLION, 5);
        house.row(1, 0, 100);
        for (int place : outside(-BILLION, BILLION)) {
            CHECK.due("join(0, 1, " + place + ")", house.join(0, 1, place), place < 0 ? -97 : -95);
            CHECK.due("join(1, 0, " + place + ")", house.join(1, 0, place), place < 0 ? 97 : 95);
        }
    }

    /** The first numbers outside, and the last that there are. */
    private static int[] outside(int least, int most) {
        return new int[] {least - 1, least - 2, Integer.MIN_VALUE, Integer.MIN_VALUE + 1,
            most + 1, most + 2, Integer.MAX_VALUE, Integer.MAX_VALUE - 1};
    }
}
