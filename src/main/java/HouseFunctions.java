import java.util.Arrays;

/**
 * Functions of a house, each to the last digit; tables joined by lines; draws
 * that hang on a seed, a number and a use alone.
 */
public final class HouseFunctions {
    public static final long NONE = -9223372036854775808L;

    private static final long MILLION = 1000000L;
    private static final long BILLION = 1000000000L;
    private static final long GREATEST_NUMBER = 1000000000000L;

    private static final int MOST_POWER = 20000000;
    private static final int MOST_RADIANS = 100000000;
    private static final int MOST_COORDINATE = 1000000;
    private static final int LEAST_KIND = 2;
    private static final int MOST_KIND = 5;

    private static final int LEAST_WARMTH = -4000;
    private static final int MOST_WARMTH = 10000;
    private static final int FULL_SHARE = 10000;
    private static final int MOST_PRESSURE = 1000000000;

    // 17.625 t / (24304 + t) is 141 t / (8 (24304 + t)): whole numbers only.
    private static final long WARMTH_ABOVE = 141L;
    private static final long WARMTH_BELOW = 8L;
    private static final long WARMTH_SHIFT = 24304L;
    // 610.94 in thousandths.
    private static final long PRESSURE_AT_ZERO = 610940L;
    // 610.94 in thousandths, of a ten-thousandth share, is 61094 / 1000.
    private static final long SHARE_ABOVE = 61094L;
    private static final long SHARE_BELOW = 1000L;

    private static final int MOST_TABLES = 6;
    private static final int MOST_ROWS = 20;
    private static final int MOST_ENTRY = 1000000000;

    private final long seed;
    private final Table[] tables;
    private int tableCount;
    private final Reckoner reckoner;

    public HouseFunctions(long seed) {
        this.seed = seed;
        this.tables = new Table[MOST_TABLES];
        for (int i = 0; i < MOST_TABLES; i++) {
            this.tables[i] = new Table();
        }
        this.tableCount = 0;
        this.reckoner = new Reckoner();
    }

    public long power(int x) throws IllegalArgumentException {
        demandWithin(x, -MOST_POWER, MOST_POWER);
        reckoner.raiseE(x, MILLION);
        return reckoner.floorTimes(BILLION);
    }

    public long logarithm(long v) throws IllegalArgumentException {
        if (v <= 0) {
            return NONE;
        }
        demandWithin(v, 1, GREATEST_NUMBER);
        reckoner.takeLog(v, MILLION);
        return reckoner.floorTimes(BILLION);
    }

    public long sine(int x) throws IllegalArgumentException {
        demandWithin(x, -MOST_RADIANS, MOST_RADIANS);
        reckoner.swing(Math.abs((long) x), x < 0 ? 2 : 0);
        return reckoner.floorTimes(BILLION);
    }

    public long cosine(int x) throws IllegalArgumentException {
        demandWithin(x, -MOST_RADIANS, MOST_RADIANS);
        reckoner.swing(Math.abs((long) x), 1);
        return reckoner.floorTimes(BILLION);
    }

    public long angle(int y, int x) throws IllegalArgumentException {
        demandWithin(y, -MOST_COORDINATE, MOST_COORDINATE);
        demandWithin(x, -MOST_COORDINATE, MOST_COORDINATE);
        if (x == 0 && y == 0) {
            return NONE;
        }
        reckoner.pointTo(y, x);
        return reckoner.floorTimes(BILLION);
    }

    public long root(long v, int k) throws IllegalArgumentException {
        demandWithin(v, 0, GREATEST_NUMBER);
        demandWithin(k, LEAST_KIND, MOST_KIND);
        return reckoner.floorOfRoot(v, k);
    }

    public long damp(int warmth, int share) throws IllegalArgumentException {
        demandWithin(warmth, LEAST_WARMTH, MOST_WARMTH);
        demandWithin(share, 0, FULL_SHARE);
        reckoner.raiseE(WARMTH_ABOVE * warmth, WARMTH_BELOW * (WARMTH_SHIFT + warmth));
        return reckoner.floorTimes(SHARE_ABOVE * share) / SHARE_BELOW;
    }

    public long dew(int pressure) throws IllegalArgumentException {
        demandWithin(pressure, 0, MOST_PRESSURE);
        // The pressure rounded down is at most this one just when the true one
        // is below the next: one logarithm then serves the whole search.
        reckoner.takeLog(pressure + 1L, PRESSURE_AT_ZERO);
        reckoner.keepLog();
        int low = LEAST_WARMTH - 1;
        int high = MOST_WARMTH;
        for (int i = 0; i < 32 && low < high; i++) {
            int middle = Math.floorDiv(low + high + 1, 2);
            if (isBelowKeptLog(middle)) {
                low = middle;
            } else {
                high = middle - 1;
            }
        }
        return low < LEAST_WARMTH ? NONE : low;
    }

    public int table() throws IllegalStateException {
        if (tableCount >= MOST_TABLES) {
            throw new IllegalStateException("there are 6 tables");
        }
        tableCount++;
        return tableCount - 1;
    }

    public int row(int table, int place, int value)
            throws IllegalArgumentException, IllegalStateException {
        Table chosen = tableOf(table);
        demandWithin(place, -MOST_ENTRY, MOST_ENTRY);
        demandWithin(value, -MOST_ENTRY, MOST_ENTRY);
        if (chosen.isFull()) {
            throw new IllegalStateException("the table has 20 rows");
        }
        return chosen.append(place, value);
    }

    public long at(int table, int place) throws IllegalArgumentException {
        return tableOf(table).valueBy(place);
    }

    public int drawn(long number, int use) {
        long z = seed + 0x9E3779B97F4A7C15L * (number + 1) + 0xD1B54A32D192ED03L * use;
        z = (z ^ (z >>> 30)) * 0xBF58476D1CE4E5B9L;
        z = (z ^ (z >>> 27)) * 0x94D049BB133111EBL;
        z = z ^ (z >>> 31);
        return (int) ((z >>> 11) % BILLION);
    }

    public long join(int table, int other, int place) throws IllegalArgumentException {
        Table first = tableOf(table);
        Table second = tableOf(other);
        long value = first.valueBy(place);
        long less = second.valueBy(place);
        if (value == NONE || less == NONE) {
            return NONE;
        }
        return value - less;
    }

    private static void demandWithin(long number, long least, long most) {
        if (number < least || number > most) {
            throw new IllegalArgumentException("a number is out of its bounds");
        }
    }

    private Table tableOf(int table) {
        if (table < 0 || table >= tableCount || table >= tables.length) {
            throw new IllegalArgumentException("there is no such table");
        }
        return tables[table];
    }

    private boolean isBelowKeptLog(int warmth) {
        return reckoner.isRatioBelowKept(
                WARMTH_ABOVE * warmth, WARMTH_BELOW * (WARMTH_SHIFT + warmth));
    }

    /** Rows by rising places. */
    private static final class Table {
        private final int[] places = new int[MOST_ROWS];
        private final int[] values = new int[MOST_ROWS];
        private int count = 0;

        boolean isFull() {
            return count >= MOST_ROWS;
        }

        int append(int place, int value) {
            if (isFull() || (count > 0 && place <= places[count - 1])) {
                return -1;
            }
            places[count] = place;
            values[count] = value;
            count++;
            return count;
        }

        long valueBy(int place) {
            if (count == 0) {
                return NONE;
            }
            if (place <= places[0]) {
                return values[0];
            }
            for (int i = 1; i < count; i++) {
                if (place <= places[i]) {
                    return valueBefore(i, place);
                }
            }
            return values[count - 1];
        }

        /** The value on the line that ends at row i, which is not the first. */
        private long valueBefore(int i, int place) {
            long span = (long) places[i] - places[i - 1];
            if (span <= 0) {
                return values[i];
            }
            long rise = (long) values[i] - values[i - 1];
            long way = (long) place - places[i - 1];
            return values[i - 1] + Math.floorDiv(rise * way, span);
        }
    }

    /**
     * The series. Each leaves its answer in value, off by less than 2^-118.
     *
     * All answers but the exact ones (of 0, of 1, and the roots, which are
     * found in whole numbers) are transcendental, so none lies on a whole
     * number of billionths; the exact ones come out of the series exact.
     */
    private static final class Reckoner {
        private static final int MOST_TERMS = 400;
        private static final int HALVINGS = 5;
        private static final int ROOT_BITS = 40;
        // 2 / pi in billionths, rounded down.
        private static final long QUARTERS_PER_RADIAN = 636619772L;
        private static final long LONG_BELOW = 1000000000000000L;

        // Low limbs first, five of them behind the point, as in Wide.
        private static final long[] HALF_PI = {
            0x52049C11L, 0x01B839A2L, 0x898CC517L, 0x42D18469L, 0x921FB544L, 1L, 0L
        };
        private static final long[] LOG_OF_TWO = {
            0x40F34326L, 0x03F2F6AFL, 0xC9E3B398L, 0xD1CF79ABL, 0xB17217F7L, 0L, 0L
        };
        // The angles whose tangents are 0, 1/4, 1/2, 3/4 and 1.
        private static final long[] ANGLES_BY_QUARTER_TANGENT = {
            0L, 0L, 0L, 0L, 0L, 0L, 0L,
            0x6A9FEA40L, 0x7DE885F9L, 0x5B71E7BDL, 0x5901BAC5L, 0x3EB6EBF2L, 0L, 0L,
            0xB70A0AC3L, 0x5E1D4681L, 0xB7F222F6L, 0x86ED3DA2L, 0x76B19C15L, 0L, 0L,
            0xE3F08689L, 0x457DAC9EL, 0x19A87F2AL, 0x34F70924L, 0xA4BC7D19L, 0L, 0L,
            0x29024E08L, 0x80DC1CD1L, 0xC4C6628BL, 0x2168C234L, 0xC90FDAA2L, 0L, 0L
        };

        private final Wide value = new Wide();
        private final Wide term = new Wide();
        private final Wide factor = new Wide();
        private final Wide part = new Wide();
        private final Wide kept = new Wide();

        /** The answer times a factor of less than 2^31, rounded down. */
        long floorTimes(long multiplier) {
            value.scale(multiplier);
            return value.whole();
        }

        /** e to the power of above / below, which is -20 .. 20. */
        void raiseE(long above, long below) {
            long size = Math.abs(above);
            // A small exponent needs few terms; squaring makes it whole again.
            long divisor = below << HALVINGS;
            value.load(1);
            term.load(1);
            for (int k = 1; k < MOST_TERMS && !term.isZero(); k++) {
                term.scale(size);
                term.divide(divisor * k);
                value.addOrSubtract(term, above < 0 && (k & 1) == 1);
            }
            for (int i = 0; i < HALVINGS; i++) {
                value.multiply(value);
            }
        }

        /** The logarithm of above / below, both 1 .. 10^12. */
        void takeLog(long above, long below) {
            long p = above;
            long q = below;
            int doublings = 0;
            // Factors of 2 go out until p / q is near to 1: above 0.7, 1.4 at most.
            for (int i = 0; i < 64 && 5 * p > 7 * q; i++) {
                q = q * 2;
                doublings++;
            }
            for (int i = 0; i < 64 && 10 * p <= 7 * q; i++) {
                p = p * 2;
                doublings--;
            }
            value.loadRatio(Math.abs(p - q), p + q);
            sumOddPowers(false);
            value.scale(2);
            if (p < q) {
                value.negate();
            }
            part.loadLimbs(LOG_OF_TWO, 0);
            part.scale(Math.abs(doublings));
            value.addOrSubtract(part, doublings < 0);
        }

        /**
         * The sine of so many millionths (0 .. 10^8) and so many quarters of a
         * turn beside them.
         */
        void swing(long millionths, int quartersBeside) {
            // May be one too few close to a quarter's end: the rest is then
            // slightly above pi / 2, which the series below bear.
            long quarters = millionths * QUARTERS_PER_RADIAN / LONG_BELOW;
            value.loadRatio(millionths, MILLION);
            part.loadLimbs(HALF_PI, 0);
            part.scale(quarters);
            value.subtract(part);
            factor.loadWide(value);
            factor.multiply(value);
            int quarter = (int) ((quarters + quartersBeside) & 3);
            boolean isCosine = (quarter & 1) == 1;
            if (isCosine) {
                value.load(1);
            }
            sumFactorials(isCosine ? 1 : 2);
            if (quarter >= 2) {
                value.negate();
            }
        }

        /** The angle of the point (x, y), which is not (0, 0). */
        void pointTo(int y, int x) {
            long tall = Math.abs((long) y);
            long broad = Math.abs((long) x);
            setFlatAngle(Math.min(tall, broad), Math.max(tall, broad));
            if (tall > broad) {
                value.negate();
                part.loadLimbs(HALF_PI, 0);
                value.add(part);
            }
            if (x < 0) {
                value.negate();
                part.loadLimbs(HALF_PI, 0);
                part.scale(2);
                value.add(part);
            }
            if (y < 0) {
                value.negate();
            }
        }

        /** The root of kind k of v millionths in billionths, rounded down. */
        long floorOfRoot(long v, int k) {
            // It is the greatest r whose power k is v 10^(9 k - 6) at most.
            kept.loadInteger(v);
            for (int i = 1; i < k; i++) {
                kept.scale(BILLION);
            }
            kept.scale(1000);
            long found = 0;
            for (int bit = ROOT_BITS - 1; bit >= 0; bit--) {
                long tried = found | (1L << bit);
                if (isPowerWithinKept(tried, k)) {
                    found = tried;
                }
            }
            return found;
        }

        void keepLog() {
            kept.loadWide(value);
        }

        /** Whether above / below is less than the number kept; below is 1 .. 2^31 - 1. */
        boolean isRatioBelowKept(long above, long below) {
            term.loadWide(kept);
            term.scale(below);
            part.load(above);
            term.subtract(part);
            return !term.isNegative() && !term.isZero();
        }

        private boolean isPowerWithinKept(long base, int k) {
            factor.loadInteger(base);
            value.loadInteger(base);
            for (int i = 1; i < k; i++) {
                value.multiplyInteger(factor);
            }
            return !value.isAbove(kept);
        }

        /** The angle whose tangent is less / more, which is 0 .. 1. */
        private void setFlatAngle(long less, long more) {
            if (more <= 0) {
                value.load(0);
                return;
            }
            // The angle of the nearest quarter, and on from there: the rest's
            // tangent is 1/8 at most.
            long nearest = (8 * less + more) / (2 * more);
            long above = 4 * less - nearest * more;
            long below = 4 * more + nearest * less;
            value.loadRatio(Math.abs(above), below);
            sumOddPowers(true);
            if (above < 0) {
                value.negate();
            }
            part.loadLimbs(ANGLES_BY_QUARTER_TANGENT, (int) nearest * Wide.WIDTH);
            value.add(part);
        }

        /** With z in value: z + z^3 / 3 + z^5 / 5 ..., or z - z^3 / 3 + z^5 / 5 ... */
        private void sumOddPowers(boolean isAlternating) {
            term.loadWide(value);
            factor.loadWide(value);
            factor.multiply(value);
            for (int k = 3; k < MOST_TERMS && !term.isZero(); k += 2) {
                term.multiply(factor);
                part.loadWide(term);
                part.divide(k);
                value.addOrSubtract(part, isAlternating && (k & 2) != 0);
            }
        }

        /**
         * With the first term in value and z^2 in factor: each next term is the
         * last one times -z^2 / (k (k + 1)), with k two greater each time.
         */
        private void sumFactorials(int firstDivisor) {
            term.loadWide(value);
            boolean isMinus = true;
            for (int k = firstDivisor; k < MOST_TERMS && !term.isZero(); k += 2) {
                term.multiply(factor);
                term.divide((long) k * (k + 1));
                value.addOrSubtract(term, isMinus);
                isMinus = !isMinus;
            }
        }
    }

    /**
     * A number of 224 bits that is changed in place, in limbs of 32 bits, low
     * ones first, below 0 as the two's complement: either a whole number, or
     * one with 160 bits behind the point. So cutting off what is behind the
     * point rounds down, also below 0.
     */
    private static final class Wide {
        static final int WIDTH = 7;
        private static final int FRACTION = 5;
        private static final long MASK = 0xFFFFFFFFL;
        private static final long SIGN = 0x80000000L;
        private static final long DIVISOR_BOUND = 1L << 47;

        private final long[] limbs = new long[WIDTH];
        private final long[] product = new long[2 * WIDTH];

        /** A whole number before the point. */
        void load(long number) {
            Arrays.fill(limbs, 0L);
            limbs[FRACTION] = number & MASK;
            limbs[FRACTION + 1] = number >>> 32;
        }

        /** A whole number, not below 0, without a point. */
        void loadInteger(long number) {
            Arrays.fill(limbs, 0L);
            limbs[0] = number & MASK;
            limbs[1] = number >>> 32;
        }

        void loadRatio(long above, long below) {
            load(above);
            divide(below);
        }

        void loadWide(Wide other) {
            for (int i = 0; i < WIDTH; i++) {
                limbs[i] = other.limbs[i];
            }
        }

        void loadLimbs(long[] row, int start) {
            for (int i = 0; i < WIDTH; i++) {
                int place = start + i;
                limbs[i] = place >= 0 && place < row.length ? row[place] : 0L;
            }
        }

        void add(Wide other) {
            long carry = 0;
            for (int i = 0; i < WIDTH; i++) {
                long sum = limbs[i] + other.limbs[i] + carry;
                limbs[i] = sum & MASK;
                carry = sum >>> 32;
            }
        }

        void subtract(Wide other) {
            long carry = 0;
            for (int i = 0; i < WIDTH; i++) {
                long difference = limbs[i] - other.limbs[i] + carry;
                limbs[i] = difference & MASK;
                carry = difference >> 32;
            }
        }

        void addOrSubtract(Wide other, boolean isMinus) {
            if (isMinus) {
                subtract(other);
            } else {
                add(other);
            }
        }

        void negate() {
            long carry = 1;
            for (int i = 0; i < WIDTH; i++) {
                long sum = (limbs[i] ^ MASK) + carry;
                limbs[i] = sum & MASK;
                carry = sum >>> 32;
            }
        }

        /** Times a number of 0 .. 2^31 - 1. */
        void scale(long multiplier) {
            long carry = 0;
            for (int i = 0; i < WIDTH; i++) {
                long sum = limbs[i] * multiplier + carry;
                limbs[i] = sum & MASK;
                carry = sum >>> 32;
            }
        }

        /** Over a number of 1 .. 2^47 - 1, rounded down; this is not below 0. */
        void divide(long divisor) {
            if (divisor <= 0 || divisor >= DIVISOR_BOUND) {
                return;
            }
            long rest = 0;
            // Half limbs, so that the rest and the next digits fit into a long.
            for (int i = WIDTH - 1; i >= 0; i--) {
                long upper = (rest << 16) | (limbs[i] >>> 16);
                long high = upper / divisor;
                long lower = ((upper - high * divisor) << 16) | (limbs[i] & 0xFFFFL);
                long low = lower / divisor;
                rest = lower - low * divisor;
                limbs[i] = (high << 16) | low;
            }
        }

        /** Times another with a point, both not below 0; up to 2^-157 too small. */
        void multiply(Wide other) {
            multiplyAndDrop(other, FRACTION);
        }

        /** Times another whole number, both not below 0. */
        void multiplyInteger(Wide other) {
            multiplyAndDrop(other, 0);
        }

        private void multiplyAndDrop(Wide other, int dropped) {
            Arrays.fill(product, 0L);
            for (int i = 0; i < WIDTH; i++) {
                long digit = limbs[i];
                if (digit == 0) {
                    continue;
                }
                long carry = 0;
                // What lies further down reaches no limb that is kept, but for
                // a few units of the last one.
                for (int j = Math.max(0, dropped - 1 - i); j < WIDTH; j++) {
                    long sum = digit * other.limbs[j] + product[i + j] + carry;
                    product[i + j] = sum & MASK;
                    carry = sum >>> 32;
                }
                product[i + WIDTH] = carry;
            }
            for (int i = 0; i < WIDTH; i++) {
                limbs[i] = product[i + dropped];
            }
        }

        boolean isZero() {
            for (int i = 0; i < WIDTH; i++) {
                if (limbs[i] != 0) {
                    return false;
                }
            }
            return true;
        }

        boolean isNegative() {
            return (limbs[WIDTH - 1] & SIGN) != 0;
        }

        /** Whether it is greater than another; both are not below 0. */
        boolean isAbove(Wide other) {
            for (int i = WIDTH - 1; i >= 0; i--) {
                if (limbs[i] != other.limbs[i]) {
                    return limbs[i] > other.limbs[i];
                }
            }
            return false;
        }

        /** What is before the point, rounded down. */
        long whole() {
            return (limbs[FRACTION + 1] << 32) | limbs[FRACTION];
        }
    }
}
