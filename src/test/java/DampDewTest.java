import java.util.Random;

/** Promises 8 and 9. */
final class DampDewTest {
    private static final int LEAST = -4000;
    private static final int MOST = 10000;
    private static final int MOST_PRESSURE = 1000000000;
    // A search over all inputs found these answers nearest to a whole number.
    private static final int[][] HARDEST = {
        {4490, 2865}, {2462, 6247}, {4490, 5730}, {4490, 8595}, {2041, 2852}, {9806, 9316},
        {4211, 7630}, {6523, 1411}, {-2848, 6781}, {2041, 5704}, {-448, 1269}, {7046, 3858}
    };
    private static final Check CHECK = new Check();

    public static void main(String[] args) {
        checkDamp();
        checkDew();
        CHECK.end();
    }

    private static void checkDamp() {
        CHECK.due("damp(0, 10000)", NextHouse.get().damp(0, 10000), 610940);
        CHECK.due("damp(0, 5000)", NextHouse.get().damp(0, 5000), 305470);
        CHECK.due("damp(-4000, 10000)", NextHouse.get().damp(LEAST, 10000), 18968);
        CHECK.due("damp(10000, 10000)", NextHouse.get().damp(MOST, 10000), 104076714);
        for (int share = 0; share <= 10000; share++) {
            CHECK.due("damp(0, " + share + ")", NextHouse.get().damp(0, share), 610940L * share / 10000);
        }
        for (int[] pair : HARDEST) {
            compare(pair[0], pair[1]);
        }
        Random random = new Random(8);
        for (int i = 0; i < 1500; i++) {
            int warmth = LEAST + random.nextInt(MOST - LEAST + 1);
            compare(warmth, random.nextInt(10001));
            compare(warmth, 10000);
            CHECK.due("damp(" + warmth + ", 0)", NextHouse.get().damp(warmth, 0), 0);
        }
        for (int n : new int[] {LEAST - 1, MOST + 1, Integer.MAX_VALUE, Integer.MIN_VALUE}) {
            CHECK.dueIllegalArgument("damp(" + n + ", 5)", () -> NextHouse.get().damp(n, 5));
        }
        for (int n : new int[] {-1, 10001, Integer.MAX_VALUE, Integer.MIN_VALUE}) {
            CHECK.dueIllegalArgument("damp(5, " + n + ")", () -> NextHouse.get().damp(5, n));
        }
    }

    private static void compare(int warmth, int share) {
        CHECK.due("damp(" + warmth + ", " + share + ")",
                NextHouse.get().damp(warmth, share), Reference.damp(warmth, share));
    }

    /** The class finds the dew by a logarithm: here damp, which has none, judges it. */
    private static void checkDew() {
        for (int warmth = LEAST; warmth <= MOST; warmth++) {
            int pressure = (int) NextHouse.get().damp(warmth, 10000);
            judge(pressure - 1);
            judge(pressure);
            judge(pressure + 1);
        }
        Random random = new Random(9);
        for (int i = 0; i < 2000; i++) {
            judge((int) Math.exp(random.nextDouble() * 20.7));
            judge(random.nextInt(MOST_PRESSURE + 1));
        }
        judge(0);
        judge(MOST_PRESSURE);
        CHECK.due("dew(0)", NextHouse.get().dew(0), HouseFunctions.NONE);
        CHECK.due("dew(18967)", NextHouse.get().dew(18967), HouseFunctions.NONE);
        CHECK.due("dew(18968)", NextHouse.get().dew(18968), LEAST);
        CHECK.due("dew(610939)", NextHouse.get().dew(610939), -1);
        CHECK.due("dew(610940)", NextHouse.get().dew(610940), 0);
        CHECK.due("dew(104076713)", NextHouse.get().dew(104076713), MOST - 1);
        CHECK.due("dew(104076714)", NextHouse.get().dew(104076714), MOST);
        for (int n : new int[] {-1, MOST_PRESSURE + 1, Integer.MAX_VALUE, Integer.MIN_VALUE}) {
            CHECK.dueIllegalArgument("dew(" + n + ")", () -> NextHouse.get().dew(n));
        }
    }

    private static void judge(int pressure) {
        long dew = NextHouse.get().dew(pressure);
        boolean isNone = dew == HouseFunctions.NONE;
        int warmth = isNone ? LEAST - 1 : (int) dew;
        boolean isRight = warmth >= LEAST - 1 && warmth <= MOST
                && (isNone || NextHouse.get().damp(warmth, 10000) <= pressure)
                && (warmth == MOST || NextHouse.get().damp(warmth + 1, 10000) > pressure);
        CHECK.due("dew(" + pressure + ") is " + dew + ": that", isRight ? 1 : 0, 1);
    }
}
