import java.util.Random;

/** Promise 2. */
final class PowerTest {
    private static final int MOST = 20000000;
    // A search over all inputs found these answers nearest to a whole number.
    private static final int[] HARDEST = {
        -15705986, -11296283, 5400178, 13730600, -1778212, -6518919, 5004413, -797859,
        15046437, 12764495, 1786658, 16516335, -1470250, -17545212, 2201216, -11159245
    };
    private static final Check CHECK = new Check();

    public static void main(String[] args) {
        CHECK.due("power(0)", NextHouse.get().power(0), 1000000000L);
        CHECK.due("power(1000000)", NextHouse.get().power(1000000), 2718281828L);
        CHECK.due("power(-1000000)", NextHouse.get().power(-1000000), 367879441L);
        CHECK.due("power(20000000)", NextHouse.get().power(MOST), 485165195409790277L);
        CHECK.due("power(-20000000)", NextHouse.get().power(-MOST), 2L);
        for (int x = -120; x <= 120; x++) {
            compare(x);
        }
        for (int i = 0; i < 50; i++) {
            compare(MOST - i);
            compare(i - MOST);
        }
        for (int x : HARDEST) {
            compare(x);
        }
        Random random = new Random(2);
        for (int i = 0; i < 1500; i++) {
            compare(random.nextInt(2 * MOST + 1) - MOST);
        }
        CHECK.dueIllegalArgument("power(20000001)", () -> NextHouse.get().power(MOST + 1));
        CHECK.dueIllegalArgument("power(-20000001)", () -> NextHouse.get().power(-MOST - 1));
        CHECK.dueIllegalArgument("power(greatest)", () -> NextHouse.get().power(Integer.MAX_VALUE));
        CHECK.dueIllegalArgument("power(least)", () -> NextHouse.get().power(Integer.MIN_VALUE));
        CHECK.end();
    }

    private static void compare(int x) {
        long want = Reference.floorBillionths(Reference.exp(Reference.ratio(x, 1000000)));
        CHECK.due("power(" + x + ")", NextHouse.get().power(x), want);
    }
}
