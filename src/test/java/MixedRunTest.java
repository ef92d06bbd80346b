import java.util.Random;

/**
 * An object that has answered and refused all kinds of calls answers as a new
 * one does: what it keeps is its tables alone.
 */
final class MixedRunTest {
    private static final Check CHECK = new Check();
    private static final int KINDS = 9;

    public static void main(String[] args) {
        for (int run = 0; run < 40; run++) {
            Random random = new Random(run);
            HouseFunctions used = new HouseFunctions(run);
            for (int i = 0; i < 512; i++) {
                int kind = random.nextInt(KINDS);
                int a = numberFrom(random);
                int b = numberFrom(random);
                HouseFunctions fresh = new HouseFunctions(run);
                CHECK.due("run " + run + ", kind " + kind + " of " + a + ", " + b,
                        answer(used, kind, a, b), answer(fresh, kind, a, b));
            }
        }
        CHECK.end();
    }

    private static int numberFrom(Random random) {
        int bits = random.nextInt(32);
        return random.nextInt() >> bits;
    }

    private static long answer(HouseFunctions house, int kind, int a, int b) {
        try {
            switch (kind) {
                case 0: return house.power(a);
                case 1: return house.logarithm((long) a * b);
                case 2: return house.sine(a);
                case 3: return house.cosine(a);
                case 4: return house.angle(a, b);
                case 5: return house.root(Math.abs((long) a), 2 + (b & 3));
                case 6: return house.damp(a, b);
                case 7: return house.dew(a);
                default: return house.drawn(a, b);
            }
        } catch (IllegalArgumentException refused) {
            return -77;
        }
    }
}
