import java.math.BigDecimal;
import java.math.RoundingMode;
import java.util.Random;

/** Promises 4 and 5. */
final class SineCosineTest {
    private static final int MOST = 100000000;
    // A search over all inputs found these answers nearest to a whole number.
    private static final int[] HARDEST = {
        64670689, 28542978, 95942144, 58639286, 4738240, 73239773, 42682218, 78166531,
        23857845, 100, 48073283, 63410462, 81681409, 55469118, 89534162, 39873650
    };
    private static final Check CHECK = new Check();

    public static void main(String[] args) {
        CHECK.due("sine(0)", NextHouse.get().sine(0), 0);
        CHECK.due("cosine(0)", NextHouse.get().cosine(0), 1000000000L);
        CHECK.due("sine(1)", NextHouse.get().sine(1), 999);
        CHECK.due("sine(-1)", NextHouse.get().sine(-1), -1000);
        CHECK.due("cosine(1)", NextHouse.get().cosine(1), 999999999L);
        CHECK.due("cosine(-1)", NextHouse.get().cosine(-1), 999999999L);
        CHECK.due("cosine(3141593)", NextHouse.get().cosine(3141593), -1000000000L);
        CHECK.due("sine(100000000)", NextHouse.get().sine(MOST), -506365642L);
        CHECK.due("sine(-100000000)", NextHouse.get().sine(-MOST), 506365641L);
        CHECK.due("cosine(100000000)", NextHouse.get().cosine(MOST), 862318872L);
        CHECK.due("cosine(-100000000)", NextHouse.get().cosine(-MOST), 862318872L);
        for (int x = -60; x <= 60; x++) {
            compare(x);
        }
        compareQuarters();
        for (int x : HARDEST) {
            compare(x);
            compare(-x);
        }
        Random random = new Random(4);
        for (int i = 0; i < 600; i++) {
            compare(random.nextInt(2 * MOST + 1) - MOST);
        }
        for (int x : new int[] {MOST + 1, -MOST - 1, Integer.MAX_VALUE, Integer.MIN_VALUE}) {
            CHECK.dueIllegalArgument("sine(" + x + ")", () -> NextHouse.get().sine(x));
            CHECK.dueIllegalArgument("cosine(" + x + ")", () -> NextHouse.get().cosine(x));
        }
        CHECK.end();
    }

    /** Both sides of each quarter of a turn. */
    private static void compareQuarters() {
        BigDecimal quarter = Reference.PI.movePointRight(6).divide(BigDecimal.valueOf(2));
        for (int i = 1; i <= 63; i++) {
            int x = quarter.multiply(BigDecimal.valueOf(i)).setScale(0, RoundingMode.FLOOR).intValueExact();
            compare(x);
            compare(-x);
            compare(x + 1);
            compare(-x - 1);
        }
    }

    private static void compare(int x) {
        BigDecimal radians = Reference.ratio(x, 1000000);
        CHECK.due("sine(" + x + ")", NextHouse.get().sine(x), Reference.floorBillionths(Reference.sin(radians)));
        CHECK.due("cosine(" + x + ")", NextHouse.get().cosine(x), Reference.floorBillionths(Reference.cos(radians)));
    }
}
