import java.util.Random;

/** Promise 13, and of promise 1 the seed. */
final class DrawTest {
    private static final Check CHECK = new Check();

    public static void main(String[] args) {
        HouseFunctions house = new HouseFunctions(0);
        CHECK.due("drawn(0, 0)", house.drawn(0, 0), 453446585);
        CHECK.due("drawn(1, 0)", house.drawn(1, 0), 653415212);
        CHECK.due("drawn(0, 1)", house.drawn(0, 1), 222369008);
        CHECK.due("drawn(-1, 0)", house.drawn(-1, 0), 0);
        CHECK.due("drawn(0, 0) again", house.drawn(0, 0), 453446585);
        long[] longs = {0, 1, -1, 5, Long.MAX_VALUE, Long.MIN_VALUE, Long.MAX_VALUE - 1};
        int[] ints = {0, 1, -1, 3, Integer.MAX_VALUE, Integer.MIN_VALUE};
        for (long seed : longs) {
            for (long number : longs) {
                for (int use : ints) {
                    compare(seed, number, use);
                }
            }
        }
        Random random = new Random(13);
        for (int i = 0; i < 5000; i++) {
            compare(random.nextLong(), random.nextLong(), random.nextInt());
        }
        CHECK.end();
    }

    private static void compare(long seed, long number, int use) {
        CHECK.due("seed " + seed + ": drawn(" + number + ", " + use + ")",
                new HouseFunctions(seed).drawn(number, use), Reference.draw(seed, number, use));
    }
}
