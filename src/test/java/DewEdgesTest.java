/**
 * "THE DEW of a pressure is the greatest warmth (-4000 .. 10000) at which the
 * pressure at share 10000, so told, is not greater than it."
 */
final class DewEdgesTest {
    // Warmths and the pressures full at them, rounded down to thousandths.
    private static final int[][] TOLD = {
        {-4000, 18968}, {-3999, 18988}, {-1, 610497}, {0, 610940}, {1, 611383},
        {9999, 104038835}, {10000, 104076714}
    };
    private static final Check CHECK = new Check();

    public static void main(String[] args) {
        notGreater();
        soTold();
        greatestWarmth();
        leastWarmth();
        mostWarmth();
        backFromDamp();
        CHECK.end();
    }

    private static void notGreater() {
        CHECK.sentence("at which the pressure at share 10000, so told, is not greater than it");
        for (int[] pair : TOLD) {
            CHECK.due("dew(" + pair[1] + ")", NextHouse.get().dew(pair[1]), pair[0]);
            long colder = pair[0] == -4000 ? HouseFunctions.NONE : pair[0] - 1;
            CHECK.due("dew(" + (pair[1] - 1) + ")", NextHouse.get().dew(pair[1] - 1), colder);
        }
    }

    // The true pressure is greater than the told one at every warmth but 0.
    private static void soTold() {
        CHECK.sentence("so told: in thousandths, rounded down");
        CHECK.due("damp(-4000, 10000)", NextHouse.get().damp(-4000, 10000), 18968);
        CHECK.due("dew(18968)", NextHouse.get().dew(18968), -4000);
        CHECK.due("damp(10000, 10000)", NextHouse.get().damp(10000, 10000), 104076714);
        CHECK.due("dew(104076714)", NextHouse.get().dew(104076714), 10000);
    }

    private static void greatestWarmth() {
        CHECK.sentence("the greatest warmth");
        CHECK.due("dew(18987)", NextHouse.get().dew(18987), -4000);
        CHECK.due("dew(610498)", NextHouse.get().dew(610498), -1);
        CHECK.due("dew(611382)", NextHouse.get().dew(611382), 0);
        CHECK.due("dew(104076713)", NextHouse.get().dew(104076713), 9999);
    }

    private static void leastWarmth() {
        CHECK.sentence("(-4000 .. 10000): none is below -4000");
        CHECK.due("dew(18968)", NextHouse.get().dew(18968), -4000);
        CHECK.due("dew(18967)", NextHouse.get().dew(18967), HouseFunctions.NONE);
        CHECK.due("dew(0)", NextHouse.get().dew(0), HouseFunctions.NONE);
    }

    private static void mostWarmth() {
        CHECK.sentence("(-4000 .. 10000): none is above 10000");
        for (int pressure : new int[] {104076714, 104076715, 104114600, 200000000, 999999999, 1000000000}) {
            CHECK.due("dew(" + pressure + ")", NextHouse.get().dew(pressure), 10000);
        }
    }

    private static void backFromDamp() {
        CHECK.sentence("the pressure of damp air and back from it");
        for (int warmth = -4000; warmth <= 10000; warmth += 7) {
            int pressure = (int) NextHouse.get().damp(warmth, 10000);
            CHECK.due("dew(" + pressure + ")", NextHouse.get().dew(pressure), warmth);
        }
    }
}
