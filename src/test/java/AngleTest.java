import java.util.Random;

/** Promise 6. */
final class AngleTest {
    private static final int MOST = 1000000;
    // A search over all inputs found these answers nearest to a whole number, in one of the
    // ways around (x or y below 0, or changed about).
    private static final int[][] HARDEST = {
        {406572, 820705}, {181048, 321443}, {364159, 561295}, {509013, 691297},
        {31314, 143467}, {371305, 700049}, {286338, 923921}, {82351, 440484},
        {503634, 596873}, {282868, 493481}, {300247, 561475}, {213658, 217297},
        {366134, 600643}, {187632, 922039}, {513467, 513496}, {27925, 833942}
    };
    private static final Check CHECK = new Check();

    public static void main(String[] args) {
        CHECK.due("angle(0, 0)", NextHouse.get().angle(0, 0), HouseFunctions.NONE);
        CHECK.due("angle(0, 1)", NextHouse.get().angle(0, 1), 0);
        CHECK.due("angle(0, 1000000)", NextHouse.get().angle(0, MOST), 0);
        CHECK.due("angle(0, -1)", NextHouse.get().angle(0, -1), 3141592653L);
        CHECK.due("angle(0, -1000000)", NextHouse.get().angle(0, -MOST), 3141592653L);
        CHECK.due("angle(1, 0)", NextHouse.get().angle(1, 0), 1570796326L);
        CHECK.due("angle(-1, 0)", NextHouse.get().angle(-1, 0), -1570796327L);
        CHECK.due("angle(1, 1)", NextHouse.get().angle(1, 1), 785398163L);
        CHECK.due("angle(-1, -1000000)", NextHouse.get().angle(-1, -MOST), -3141591654L);
        for (int y = -9; y <= 9; y++) {
            for (int x = -9; x <= 9; x++) {
                compare(y, x);
            }
        }
        int[] edges = {1, 2, 3, 125000, 375000, 500000, 625000, 875000, MOST - 1, MOST};
        for (int y : edges) {
            for (int x : edges) {
                compareAround(y, x);
            }
        }
        for (int[] pair : HARDEST) {
            compareAround(pair[0], pair[1]);
            compareAround(pair[1], pair[0]);
        }
        Random random = new Random(5);
        for (int i = 0; i < 200; i++) {
            compareAround(1 + random.nextInt(MOST), 1 + random.nextInt(MOST));
            compareAround(1 + random.nextInt(1000), 1 + random.nextInt(MOST));
        }
        for (int n : new int[] {MOST + 1, -MOST - 1, Integer.MAX_VALUE, Integer.MIN_VALUE}) {
            CHECK.dueIllegalArgument("angle(" + n + ", 0)", () -> NextHouse.get().angle(n, 0));
            CHECK.dueIllegalArgument("angle(0, " + n + ")", () -> NextHouse.get().angle(0, n));
        }
        CHECK.end();
    }

    private static void compareAround(int y, int x) {
        compare(y, x);
        compare(y, -x);
        compare(-y, x);
        compare(-y, -x);
    }

    private static void compare(int y, int x) {
        if (x == 0 && y == 0) {
            return;
        }
        long want = Reference.floorBillionths(Reference.angle(y, x));
        CHECK.due("angle(" + y + ", " + x + ")", NextHouse.get().angle(y, x), want);
    }
}
