import java.math.BigInteger;

/**
 * "what comes out in BILLIONTHS (1000000000 is one) is the true value, rounded
 * down to the next whole number of billionths that is not greater (also below
 * 0): just that, whatever digits that takes."
 */
final class RoundedDownTest {
    private static final Check CHECK = new Check();

    public static void main(String[] args) {
        wholeStaysWhole();
        aboveZero();
        belowZero();
        closeAboveWhole();
        closeBelowWhole();
        exactRoots();
        pressures();
        pressureOfShareRoundedOnce();
        lines();
        CHECK.end();
    }

    private static void wholeStaysWhole() {
        CHECK.sentence("rounded down to the next whole number of billionths that is not greater: a whole one");
        CHECK.due("power(0)", NextHouse.get().power(0), 1000000000);
        CHECK.due("logarithm(1000000)", NextHouse.get().logarithm(1000000), 0);
        CHECK.due("sine(0)", NextHouse.get().sine(0), 0);
        CHECK.due("cosine(0)", NextHouse.get().cosine(0), 1000000000);
        CHECK.due("angle(0, 1)", NextHouse.get().angle(0, 1), 0);
        CHECK.due("angle(0, 777)", NextHouse.get().angle(0, 777), 0);
        CHECK.due("root(0, 2)", NextHouse.get().root(0, 2), 0);
        CHECK.due("root(1, 2)", NextHouse.get().root(1, 2), 1000000);
        CHECK.due("root(1000000, 5)", NextHouse.get().root(1000000, 5), 1000000000);
        CHECK.due("root(160000000000, 4)", NextHouse.get().root(160000000000L, 4), 20000000000L);
    }

    private static void aboveZero() {
        CHECK.sentence("rounded down to the next whole number of billionths that is not greater");
        CHECK.due("power(1)", NextHouse.get().power(1), 1000001000);
        CHECK.due("power(-1)", NextHouse.get().power(-1), 999999000);
        CHECK.due("power(1000000)", NextHouse.get().power(1000000), 2718281828L);
        CHECK.due("logarithm(1000001)", NextHouse.get().logarithm(1000001), 999);
        CHECK.due("sine(1)", NextHouse.get().sine(1), 999);
        CHECK.due("sine(1570796)", NextHouse.get().sine(1570796), 999999999);
        CHECK.due("cosine(1)", NextHouse.get().cosine(1), 999999999);
        CHECK.due("cosine(-1)", NextHouse.get().cosine(-1), 999999999);
        CHECK.due("angle(1, 1000000)", NextHouse.get().angle(1, 1000000), 999);
        CHECK.due("root(2000000, 2)", NextHouse.get().root(2000000, 2), 1414213562);
        CHECK.due("root(999999, 2)", NextHouse.get().root(999999, 2), 999999499);
    }

    private static void belowZero() {
        CHECK.sentence("(also below 0)");
        CHECK.due("logarithm(999999)", NextHouse.get().logarithm(999999), -1001);
        CHECK.due("logarithm(500000)", NextHouse.get().logarithm(500000), -693147181);
        CHECK.due("logarithm(1)", NextHouse.get().logarithm(1), -13815510558L);
        CHECK.due("sine(-1)", NextHouse.get().sine(-1), -1000);
        CHECK.due("sine(3141593)", NextHouse.get().sine(3141593), -347);
        CHECK.due("sine(-3141592)", NextHouse.get().sine(-3141592), -654);
        CHECK.due("sine(-1570796)", NextHouse.get().sine(-1570796), -1000000000);
        CHECK.due("cosine(1570797)", NextHouse.get().cosine(1570797), -674);
        CHECK.due("cosine(-1570797)", NextHouse.get().cosine(-1570797), -674);
        CHECK.due("cosine(3141593)", NextHouse.get().cosine(3141593), -1000000000);
        CHECK.due("angle(-1, 1000000)", NextHouse.get().angle(-1, 1000000), -1000);
        CHECK.due("angle(-1, 1)", NextHouse.get().angle(-1, 1), -785398164);
        CHECK.due("angle(-1, 0)", NextHouse.get().angle(-1, 0), -1570796327);
        CHECK.due("angle(-1, -1)", NextHouse.get().angle(-1, -1), -2356194491L);
    }

    // What is left over behind the billionths begins with seven zeros or more:
    // digits of a double can't tell.
    private static void closeAboveWhole() {
        CHECK.sentence("just that, whatever digits that takes: just above a whole number");
        CHECK.due("power(-15705986)", NextHouse.get().power(-15705986), 151);
        CHECK.due("power(13730600)", NextHouse.get().power(13730600), 918594441684116L);
        CHECK.due("logarithm(363961489884)", NextHouse.get().logarithm(363961489884L), 12804803344L);
        CHECK.due("logarithm(102419694992)", NextHouse.get().logarithm(102419694992L), 11536834307L);
        CHECK.due("sine(64670689)", NextHouse.get().sine(64670689), 964291944);
        CHECK.due("angle(820705, 406572)", NextHouse.get().angle(820705, 406572), 1110840628);
        CHECK.due("cosine(4712389)", NextHouse.get().cosine(4712389), 19);
        CHECK.due("sine(4712389)", NextHouse.get().sine(4712389), -1000000000);
    }

    // The same with nines.
    private static void closeBelowWhole() {
        CHECK.sentence("just that, whatever digits that takes: just below a whole number");
        CHECK.due("power(-11296283)", NextHouse.get().power(-11296283), 12418);
        CHECK.due("power(5400178)", NextHouse.get().power(5400178), 221445830053L);
        CHECK.due("sine(-64670689)", NextHouse.get().sine(-64670689), -964291945);
        CHECK.due("sine(28542978)", NextHouse.get().sine(28542978), -265424433);
        CHECK.due("angle(-820705, 406572)", NextHouse.get().angle(-820705, 406572), -1110840629);
        CHECK.due("root(999999999999, 2)", NextHouse.get().root(999999999999L, 2), 999999999999L);
    }

    private static void exactRoots() {
        CHECK.sentence("THE ROOT of kind k is the number not below 0 whose power k it is");
        for (int k = 2; k <= 5; k++) {
            for (long base : new long[] {1, 2, 3, 7, 10, 15}) {
                long v = BigInteger.valueOf(base).pow(k).longValueExact() * 1000000;
                CHECK.due("root(" + v + ", " + k + ")", NextHouse.get().root(v, k), base * 1000000000);
                CHECK.dueTrue("root(" + (v - 1) + ", " + k + ") is below it",
                        NextHouse.get().root(v - 1, k) < base * 1000000000);
                CHECK.dueTrue("root(" + (v + 1) + ", " + k + ") is not below it",
                        NextHouse.get().root(v + 1, k) >= base * 1000000000);
            }
        }
    }

    private static void pressures() {
        CHECK.sentence("the PRESSURE at a share of it is so many ten-thousandths of that, told in thousandths, "
                + "rounded down");
        CHECK.due("damp(0, 1)", NextHouse.get().damp(0, 1), 61);
        CHECK.due("damp(0, 9)", NextHouse.get().damp(0, 9), 549);
        CHECK.due("damp(0, 9999)", NextHouse.get().damp(0, 9999), 610878);
        CHECK.due("damp(-1, 10000)", NextHouse.get().damp(-1, 10000), 610497);
        CHECK.due("damp(1, 10000)", NextHouse.get().damp(1, 10000), 611383);
        CHECK.due("damp(4490, 2865)", NextHouse.get().damp(4490, 2865), 2733507);
    }

    // The share of the pressure full that is already told would be one less.
    private static void pressureOfShareRoundedOnce() {
        CHECK.sentence("so many ten-thousandths of that, told in thousandths, rounded down: only then");
        CHECK.due("damp(-4000, 5001)", NextHouse.get().damp(-4000, 5001), 9486);
        CHECK.due("damp(-3963, 5001)", NextHouse.get().damp(-3963, 5001), 9857);
        CHECK.due("damp(-3926, 9999)", NextHouse.get().damp(-3926, 9999), 20476);
        CHECK.due("damp(-3926, 7777)", NextHouse.get().damp(-3926, 7777), 15926);
    }

    private static void lines() {
        CHECK.sentence("between two rows a and b at the places s and t it is a + (b - a) (place - s) / (t - s), "
                + "rounded down");
        dueLine(0, 0, 3, 1, new long[] {0, 0, 0, 1});
        dueLine(0, 0, 3, -1, new long[] {0, -1, -1, -1});
        dueLine(0, -1, 2, 0, new long[] {-1, -1, 0});
        dueLine(0, 5, 2, 4, new long[] {5, 4, 4});
        dueLine(-2, -7, 2, 4, new long[] {-7, -5, -2, 1, 4});
        dueLine(-2, 4, 2, -7, new long[] {4, 1, -2, -5, -7});
        dueLine(7, 3, 9, 3, new long[] {3, 3, 3});
    }

    private static void dueLine(int s, int a, int t, int b, long[] values) {
        HouseFunctions house = new HouseFunctions(1);
        house.table();
        house.row(0, s, a);
        house.row(0, t, b);
        for (int i = 0; i < values.length; i++) {
            CHECK.due("from " + a + " at " + s + " to " + b + " at " + t + ": at(0, " + (s + i) + ")",
                    house.at(0, s + i), values[i]);
        }
    }
}
