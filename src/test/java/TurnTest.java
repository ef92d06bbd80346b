import java.util.Random;

/** THE ANGLE goes once round: where it begins, which way it goes and where it ends. */
final class TurnTest {
    private static final int MOST = 1000000;
    private static final long PI = 3141592653L;
    private static final Check CHECK = new Check();

    public static void main(String[] args) {
        begins();
        goesLeft();
        abovePiBelow();
        piAtMost();
        withinBoth();
        sineAndCosineOverManyTurns();
        CHECK.end();
    }

    private static void begins() {
        CHECK.sentence("that of the point's way from (0, 0), from that to (1, 0)");
        for (int x : new int[] {1, 2, 999999, MOST}) {
            CHECK.due("angle(0, " + x + ")", NextHouse.get().angle(0, x), 0);
        }
    }

    private static void goesLeft() {
        CHECK.sentence("from that to (1, 0) on to the left");
        CHECK.due("angle(1, 1)", NextHouse.get().angle(1, 1), 785398163);
        CHECK.due("angle(1, 0)", NextHouse.get().angle(1, 0), 1570796326);
        CHECK.due("angle(1, -1)", NextHouse.get().angle(1, -1), 2356194490L);
        CHECK.due("angle(0, -1)", NextHouse.get().angle(0, -1), PI);
        CHECK.due("angle(-1, -1)", NextHouse.get().angle(-1, -1), -2356194491L);
        CHECK.due("angle(-1, 0)", NextHouse.get().angle(-1, 0), -1570796327);
        CHECK.due("angle(-1, 1)", NextHouse.get().angle(-1, 1), -785398164);
        CHECK.due("angle(1, 1000000)", NextHouse.get().angle(1, MOST), 999);
        CHECK.due("angle(-1, 1000000)", NextHouse.get().angle(-1, MOST), -1000);
        CHECK.due("angle(1000000, 1)", NextHouse.get().angle(MOST, 1), 1570795326);
        CHECK.due("angle(1000000, -1)", NextHouse.get().angle(MOST, -1), 1570797326);
        CHECK.due("angle(-1000000, 1)", NextHouse.get().angle(-MOST, 1), -1570795327);
        CHECK.due("angle(-1000000, -1)", NextHouse.get().angle(-MOST, -1), -1570797327);
    }

    private static void abovePiBelow() {
        CHECK.sentence("above -pi");
        CHECK.due("angle(-1, -1000000)", NextHouse.get().angle(-1, -MOST), -3141591654L);
        CHECK.due("angle(-1, -999999)", NextHouse.get().angle(-1, -999999), -3141591654L);
    }

    private static void piAtMost() {
        CHECK.sentence("and pi at most");
        for (int x : new int[] {-1, -2, -3, -999999, -MOST}) {
            CHECK.due("angle(0, " + x + ")", NextHouse.get().angle(0, x), PI);
        }
        CHECK.due("angle(1, -1000000)", NextHouse.get().angle(1, -MOST), 3141591653L);
    }

    private static void withinBoth() {
        CHECK.sentence("above -pi, and pi at most: everywhere, and below 0 just where y is");
        Random random = new Random(61);
        for (int i = 0; i < 3000; i++) {
            int y = random.nextInt(2 * MOST + 1) - MOST >> random.nextInt(20);
            int x = random.nextInt(2 * MOST + 1) - MOST >> random.nextInt(20);
            if (x == 0 && y == 0) {
                continue;
            }
            long angle = NextHouse.get().angle(y, x);
            CHECK.dueTrue("angle(" + y + ", " + x + ") is " + angle + ", within both", angle >= -PI && angle <= PI);
            CHECK.dueTrue("angle(" + y + ", " + x + ") is " + angle + ", on y's side", angle < 0 == y < 0);
        }
    }

    // Either side of the first turn's quarters, and of the last whole turns within the bounds.
    private static void sineAndCosineOverManyTurns() {
        CHECK.sentence("Angles are in radians: SINE and COSINE of the number");
        CHECK.due("sine(3141592)", NextHouse.get().sine(3141592), 653);
        CHECK.due("sine(3141593)", NextHouse.get().sine(3141593), -347);
        CHECK.due("sine(6283185)", NextHouse.get().sine(6283185), -308);
        CHECK.due("sine(6283186)", NextHouse.get().sine(6283186), 692);
        CHECK.due("sine(-3141592)", NextHouse.get().sine(-3141592), -654);
        CHECK.due("sine(-3141593)", NextHouse.get().sine(-3141593), 346);
        CHECK.due("cosine(1570796)", NextHouse.get().cosine(1570796), 326);
        CHECK.due("cosine(1570797)", NextHouse.get().cosine(1570797), -674);
        CHECK.due("cosine(4712388)", NextHouse.get().cosine(4712388), -981);
        CHECK.due("cosine(4712389)", NextHouse.get().cosine(4712389), 19);
        for (int turns = 1; turns <= 15; turns++) {
            int x = Reference.PI.multiply(java.math.BigDecimal.valueOf(2000000L * turns)).intValue();
            CHECK.dueTrue("sine(" + x + ") is below 0", NextHouse.get().sine(x) < 0);
            CHECK.dueTrue("sine(" + (x + 1) + ") is not", NextHouse.get().sine(x + 1) >= 0);
            CHECK.dueTrue("sine(" + -x + ") is not", NextHouse.get().sine(-x) >= 0);
            CHECK.due("cosine(" + x + ")", NextHouse.get().cosine(x), 999999999);
            CHECK.due("cosine(" + -x + ")", NextHouse.get().cosine(-x), 999999999);
        }
    }
}
