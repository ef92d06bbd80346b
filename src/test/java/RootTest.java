import java.util.Random;

/** Promise 7. */
final class RootTest {
    private static final long MOST = 1000000000000L;
    private static final Check CHECK = new Check();

    public static void main(String[] args) {
        CHECK.due("root(2000000, 2)", NextHouse.get().root(2000000, 2), 1414213562L);
        CHECK.due("root(1, 5)", NextHouse.get().root(1, 5), 63095734L);
        CHECK.due("root(10^12, 2)", NextHouse.get().root(MOST, 2), MOST);
        CHECK.due("root(10^12, 3)", NextHouse.get().root(MOST, 3), 100000000000L);
        CHECK.due("root(10^12, 5)", NextHouse.get().root(MOST, 5), 15848931924L);
        Random random = new Random(6);
        for (int k = 2; k <= 5; k++) {
            compareExact(k);
            for (long v = 0; v <= 200; v++) {
                compare(v, k);
                compare(MOST - v, k);
            }
            for (int i = 0; i < 2000; i++) {
                compare((long) (random.nextDouble() * MOST), k);
                compare((long) Math.exp(random.nextDouble() * 27.6), k);
            }
            int kind = k;
            for (long v : new long[] {-1, MOST + 1, Long.MAX_VALUE, Long.MIN_VALUE}) {
                CHECK.dueIllegalArgument("root(" + v + ", " + k + ")", () -> NextHouse.get().root(v, kind));
            }
        }
        for (int k : new int[] {1, 6, 0, -2, Integer.MAX_VALUE, Integer.MIN_VALUE}) {
            CHECK.dueIllegalArgument("root(5, " + k + ")", () -> NextHouse.get().root(5, k));
        }
        CHECK.end();
    }

    /** Powers of whole numbers, and what is just beside them. */
    private static void compareExact(int k) {
        for (long base = 1; base <= 1000; base++) {
            long v = 1000000;
            for (int i = 0; i < k && v <= MOST; i++) {
                v = v * base;
            }
            if (v > MOST) {
                return;
            }
            CHECK.due("root(" + v + ", " + k + ")", NextHouse.get().root(v, k), base * 1000000000L);
            compare(v - 1, k);
            if (v < MOST) {
                compare(v + 1, k);
            }
        }
    }

    private static void compare(long v, int k) {
        long r = NextHouse.get().root(v, k);
        CHECK.due("root(" + v + ", " + k + ") is " + r + ": that", Reference.isFloorOfRoot(r, v, k) ? 1 : 0, 1);
    }
}
