import java.util.Random;

/** Promise 3. */
final class LogarithmTest {
    private static final long MOST = 1000000000000L;
    // A search over all inputs found these answers nearest to a whole number.
    private static final long[] HARDEST = {
        363961489884L, 102419694992L, 395613678213L, 446578263887L, 54042636780L,
        387326679110L, 131465885357L, 175861312284L, 976869844890L, 142386816512L,
        876643557612L, 836717189104L, 491806773724L, 541109154607L, 191534375496L,
        177477201075L, 546594118902L, 120211339111L, 707488595546L, 227221541892L
    };
    private static final Check CHECK = new Check();

    public static void main(String[] args) {
        CHECK.due("logarithm(1000000)", NextHouse.get().logarithm(1000000), 0);
        CHECK.due("logarithm(2000000)", NextHouse.get().logarithm(2000000), 693147180L);
        CHECK.due("logarithm(500000)", NextHouse.get().logarithm(500000), -693147181L);
        CHECK.due("logarithm(1)", NextHouse.get().logarithm(1), -13815510558L);
        CHECK.due("logarithm(10^12)", NextHouse.get().logarithm(MOST), 13815510557L);
        for (long v : new long[] {0, -1, -1000000, Long.MIN_VALUE}) {
            CHECK.due("logarithm(" + v + ")", NextHouse.get().logarithm(v), HouseFunctions.NONE);
        }
        for (long v = 1; v <= 100; v++) {
            compare(v);
            compare(MOST - v);
            compare(1000000 + v);
            compare(1000000 - v);
            // The ends of the class's own steps: 7/10 and 7/5 of powers of 2.
            compare(700000 - 50 + v);
            compare(1400000 - 50 + v);
        }
        for (int bit = 0; bit < 40 && 1L << bit <= MOST; bit++) {
            compare(1L << bit);
        }
        for (long v : HARDEST) {
            compare(v);
        }
        Random random = new Random(3);
        for (int i = 0; i < 600; i++) {
            compare(1 + (long) (random.nextDouble() * (MOST - 1)));
            compare((long) Math.exp(random.nextDouble() * 27.6));
        }
        CHECK.dueIllegalArgument("logarithm(10^12 + 1)", () -> NextHouse.get().logarithm(MOST + 1));
        CHECK.dueIllegalArgument("logarithm(greatest)", () -> NextHouse.get().logarithm(Long.MAX_VALUE));
        CHECK.end();
    }

    private static void compare(long v) {
        long want = v == 1000000 ? 0 : Reference.floorBillionths(Reference.log(v, 1000000));
        CHECK.due("logarithm(" + v + ")", NextHouse.get().logarithm(v), want);
    }
}
