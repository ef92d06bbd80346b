import java.math.BigDecimal;
import java.math.BigInteger;
import java.math.MathContext;
import java.math.RoundingMode;

/**
 * The functions once more, over BigDecimal and by other ways than the class
 * takes, so that both are unlikely to share a fault.
 */
final class Reference {
    // A sine of 100 adds and subtracts terms of up to 10^43.
    private static final int PLACES = 130;
    private static final MathContext DIGITS = new MathContext(PLACES, RoundingMode.HALF_EVEN);
    private static final BigDecimal TINY = BigDecimal.ONE.movePointLeft(PLACES);
    private static final BigDecimal TWO = BigDecimal.valueOf(2);
    static final BigDecimal PI = pi();
    static final BigDecimal LOG_10 = logOfTen();

    private Reference() {
    }

    static BigDecimal ratio(long above, long below) {
        return BigDecimal.valueOf(above).divide(BigDecimal.valueOf(below), DIGITS);
    }

    static long floorBillionths(BigDecimal number) {
        return floor(number.movePointRight(9));
    }

    static long floor(BigDecimal number) {
        return number.setScale(0, RoundingMode.FLOOR).longValueExact();
    }

    /** The plain series, of the size of x alone. */
    static BigDecimal exp(BigDecimal x) {
        BigDecimal size = x.abs();
        BigDecimal sum = BigDecimal.ONE;
        BigDecimal term = BigDecimal.ONE;
        for (int k = 1; term.abs().compareTo(TINY) > 0; k++) {
            term = term.multiply(size, DIGITS).divide(BigDecimal.valueOf(k), DIGITS);
            sum = sum.add(term, DIGITS);
        }
        return x.signum() < 0 ? BigDecimal.ONE.divide(sum, DIGITS) : sum;
    }

    /** The root of y is taken until it is near to 1. */
    static BigDecimal log(long above, long below) {
        BigDecimal y = ratio(above, below);
        int tens = y.precision() - y.scale();
        return logNearOne(y.movePointLeft(tens)).add(LOG_10.multiply(BigDecimal.valueOf(tens)));
    }

    private static BigDecimal logOfTen() {
        return logNearOne(BigDecimal.TEN);
    }

    private static BigDecimal logNearOne(BigDecimal y) {
        int roots = 6;
        BigDecimal near = y;
        for (int i = 0; i < roots; i++) {
            near = near.sqrt(DIGITS);
        }
        BigDecimal z = near.subtract(BigDecimal.ONE).divide(near.add(BigDecimal.ONE), DIGITS);
        return oddPowers(z, false).multiply(TWO.pow(roots + 1), DIGITS);
    }

    /** The plain series, of x itself. */
    static BigDecimal sin(BigDecimal x) {
        return alternating(x, x, 2);
    }

    static BigDecimal cos(BigDecimal x) {
        return alternating(BigDecimal.ONE, x, 1);
    }

    private static BigDecimal alternating(BigDecimal first, BigDecimal x, int divisor) {
        BigDecimal square = x.multiply(x).negate();
        BigDecimal sum = first;
        BigDecimal term = first;
        for (int k = divisor; term.abs().compareTo(TINY) > 0; k += 2) {
            term = term.multiply(square, DIGITS)
                    .divide(BigDecimal.valueOf((long) k * (k + 1)), DIGITS);
            sum = sum.add(term, DIGITS);
        }
        return sum;
    }

    static BigDecimal angle(long y, long x) {
        if (y < 0) {
            return angle(-y, x).negate();
        }
        if (x < 0) {
            return PI.subtract(angle(y, -x));
        }
        if (y > x) {
            return PI.divide(TWO).subtract(angle(x, y));
        }
        return halvedAngle(ratio(y, x));
    }

    private static BigDecimal halvedAngle(BigDecimal tangent) {
        int halvings = 4;
        BigDecimal t = tangent;
        for (int i = 0; i < halvings; i++) {
            BigDecimal length = t.multiply(t).add(BigDecimal.ONE).sqrt(DIGITS);
            t = t.divide(length.add(BigDecimal.ONE), DIGITS);
        }
        return oddPowers(t, true).multiply(TWO.pow(halvings), DIGITS);
    }

    private static BigDecimal pi() {
        BigDecimal fifth = oddPowers(ratio(1, 5), true).multiply(BigDecimal.valueOf(16));
        return fifth.subtract(oddPowers(ratio(1, 239), true).multiply(BigDecimal.valueOf(4)));
    }

    private static BigDecimal oddPowers(BigDecimal z, boolean isAlternating) {
        BigDecimal square = z.multiply(z, DIGITS);
        BigDecimal sum = z;
        BigDecimal term = z;
        for (int k = 3; term.abs().compareTo(TINY) > 0; k += 2) {
            term = term.multiply(isAlternating ? square.negate() : square, DIGITS);
            sum = sum.add(term.divide(BigDecimal.valueOf(k), DIGITS), DIGITS);
        }
        return sum;
    }

    /** Whether r billionths is the root of kind k of v millionths, rounded down. */
    static boolean isFloorOfRoot(long r, long v, int k) {
        BigInteger whole = BigInteger.valueOf(v).multiply(BigInteger.TEN.pow(9 * k - 6));
        return r >= 0
                && BigInteger.valueOf(r).pow(k).compareTo(whole) <= 0
                && BigInteger.valueOf(r + 1).pow(k).compareTo(whole) > 0;
    }

    /** From below, bit by bit: slow, and judged by isFloorOfRoot. */
    static long floorOfRoot(long v, int k) {
        long r = 0;
        for (long step = 1L << 40; step > 0; step >>= 1) {
            BigInteger whole = BigInteger.valueOf(v).multiply(BigInteger.TEN.pow(9 * k - 6));
            if (BigInteger.valueOf(r + step).pow(k).compareTo(whole) <= 0) {
                r += step;
            }
        }
        if (!isFloorOfRoot(r, v, k)) {
            throw new IllegalStateException("the reference is wrong");
        }
        return r;
    }

    /** By halving between warmths, with the pressures themselves. */
    static long dew(int pressure) {
        int low = -4001;
        int high = 10001;
        while (high - low > 1) {
            int middle = Math.floorDiv(low + high, 2);
            if (damp(middle, 10000) <= pressure) {
                low = middle;
            } else {
                high = middle;
            }
        }
        return low < -4000 ? HouseFunctions.NONE : low;
    }

    static long damp(int warmth, int share) {
        BigDecimal exponent = new BigDecimal("17.625").multiply(BigDecimal.valueOf(warmth))
                .divide(BigDecimal.valueOf(24304L + warmth), DIGITS);
        BigDecimal full = new BigDecimal("610.94").multiply(exp(exponent));
        return floor(full.multiply(BigDecimal.valueOf(share)).movePointLeft(4).movePointRight(3));
    }

    static int draw(long seed, long number, int use) {
        BigInteger z = BigInteger.valueOf(seed)
                .add(hex("9E3779B97F4A7C15").multiply(BigInteger.valueOf(number).add(BigInteger.ONE)))
                .add(hex("D1B54A32D192ED03").multiply(BigInteger.valueOf(use)));
        z = cut(z);
        z = cut(z.xor(z.shiftRight(30)).multiply(hex("BF58476D1CE4E5B9")));
        z = cut(z.xor(z.shiftRight(27)).multiply(hex("94D049BB133111EB")));
        z = z.xor(z.shiftRight(31));
        return z.shiftRight(11).mod(BigInteger.TEN.pow(9)).intValueExact();
    }

    private static BigInteger hex(String digits) {
        return new BigInteger(digits, 16);
    }

    private static BigInteger cut(BigInteger z) {
        return z.mod(BigInteger.ONE.shiftLeft(64));
    }
}
