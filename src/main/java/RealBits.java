/**
 * Arithmetic on numbers of 32 bits with a sign, an exponent and a fraction, worked out from whole
 * numbers: each result is the exact one, rounded by the mode, and flags tell what happened.
 *
 * <p>Inside, a finite number is a sign (0 or SIGN_BIT), a magnitude (a whole number below 2^62) and
 * a unit: its absolute value is magnitude * 2^unit. Where a result does not end, or is too long,
 * the lowest bit of its magnitude is set in place of all that was cut off. That rounds as the whole
 * would, because such a magnitude always has more than 25 bits: the lowest bit is then below the
 * one that tells a tie.
 */
public final class RealBits {
    private static final int NEAREST = 0;
    private static final int UP = 2;
    private static final int DOWN = 3;

    private static final int INEXACT = 1;
    private static final int UNDERFLOW = 2;
    private static final int OVERFLOW = 4;
    private static final int DIVIDED_BY_ZERO = 8;
    private static final int INVALID = 16;

    private static final int SIGN_BIT = 0x80000000;
    private static final int ALL_BUT_SIGN = 0x7FFFFFFF;
    private static final int FRACTION_BITS = 23;
    private static final int FRACTION_MASK = 0x007FFFFF;
    private static final int HIDDEN_BIT = 0x00800000;
    private static final int LEAST_QUIET = 0x00400000;
    private static final int INFINITY = 0x7F800000;
    private static final int GREATEST_FINITE = 0x7F7FFFFF;
    private static final int NO_NUMBER = 0x7FC00000;
    private static final int ONE = 0x3F800000;

    private static final int LEAST_UNIT = -149;
    private static final int PRECISION = 24;
    private static final int SCALE_LIMIT = 400;

    private static final int LEAST_INT = 0x80000000;
    private static final int GREATEST_INT = 0x7FFFFFFF;

    private static final int KIND_LOUD = 0;
    private static final int KIND_QUIET = 1;
    private static final int KIND_INFINITE = 2;
    private static final int KIND_ZERO = 3;
    private static final int KIND_SMALL = 4;
    private static final int KIND_ORDINARY = 5;
    private static final int KIND_NEGATIVE = 8;

    private static final int UNORDERED = 2;

    private int currentMode;
    private int raisedFlags;

    public RealBits() {
        currentMode = NEAREST;
        raisedFlags = 0;
    }

    public boolean round(int m) {
        if (m < NEAREST || m > DOWN) {
            return false;
        }
        currentMode = m;
        return true;
    }

    public int mode() {
        return currentMode;
    }

    public int flags() {
        return raisedFlags;
    }

    public int clear() {
        int before = raisedFlags;
        raisedFlags = 0;
        return before;
    }

    // A sum is 1 * a + b: the product with 1 is exact and keeps the sign of a, also that of a zero.
    public int add(int a, int b) {
        return productPlus(ONE, a, b);
    }

    public int subtract(int a, int b) {
        return productPlus(ONE, a, b ^ SIGN_BIT);
    }

    public int multiply(int a, int b) {
        if (isNoNumber(a) || isNoNumber(b)) {
            return noNumber(isLoud(a) || isLoud(b));
        }
        if (isZeroTimesInfinite(a, b)) {
            return invalid();
        }
        int sign = signOf(a ^ b);
        if (isInfinite(a) || isInfinite(b)) {
            return sign | INFINITY;
        }
        return rounded(sign, magnitudeOf(a) * magnitudeOf(b), unitOf(a) + unitOf(b));
    }

    public int divide(int a, int b) {
        if (isNoNumber(a) || isNoNumber(b)) {
            return noNumber(isLoud(a) || isLoud(b));
        }
        if ((isZero(a) && isZero(b)) || (isInfinite(a) && isInfinite(b))) {
            return invalid();
        }
        int sign = signOf(a ^ b);
        if (isInfinite(a)) {
            return sign | INFINITY;
        }
        if (isInfinite(b)) {
            return sign;
        }
        long divisor = magnitudeOf(b);
        if (divisor == 0) {
            raise(DIVIDED_BY_ZERO);
            return sign | INFINITY;
        }
        // A dividend of 62 bits leaves the quotient at least 38, for a divisor has at most 24.
        int shift = 62 - bitLength(magnitudeOf(a));
        long dividend = magnitudeOf(a) << shift;
        long quotient = withTrace(dividend / divisor, dividend % divisor != 0);
        return rounded(sign, quotient, unitOf(a) - shift - unitOf(b));
    }

    public int root(int a) {
        if (isNoNumber(a)) {
            return noNumber(isLoud(a));
        }
        if (isNegative(a) && !isZero(a)) {
            return invalid();
        }
        if (isInfinite(a)) {
            return a;
        }
        // The unit must be even to be halved; a square of 61 or 62 bits has a root of 31.
        int shift = 62 - bitLength(magnitudeOf(a));
        if (((unitOf(a) - shift) & 1) != 0) {
            shift--;
        }
        long square = magnitudeOf(a) << shift;
        long floor = floorRoot(square);
        return rounded(signOf(a), withTrace(floor, floor * floor != square), (unitOf(a) - shift) >> 1);
    }

    public int fused(int a, int b, int c) {
        return productPlus(a, b, c);
    }

    public int scale(int a, int n) {
        if (isNoNumber(a)) {
            return noNumber(isLoud(a));
        }
        if (isInfinite(a)) {
            return a;
        }
        int power = Math.max(-SCALE_LIMIT, Math.min(SCALE_LIMIT, n));
        return rounded(signOf(a), magnitudeOf(a), unitOf(a) + power);
    }

    public int whole(int a) {
        if (isNoNumber(a)) {
            return noNumber(isLoud(a));
        }
        if (isInfinite(a) || unitOf(a) >= 0) {
            return a;
        }
        if (!isMultiple(magnitudeOf(a), -unitOf(a))) {
            raise(INEXACT);
        }
        return rounded(signOf(a), multiple(signOf(a), magnitudeOf(a), -unitOf(a)), 0);
    }

    public int toInt(int a) {
        // From 2^32 on no int is near, and the shift below might lose bits.
        if (!isFinite(a) || unitOf(a) > 8) {
            return invalidInt();
        }
        long size = multiple(signOf(a), magnitudeOf(a), -unitOf(a));
        long value = isNegative(a) ? -size : size;
        if (value < LEAST_INT || value > GREATEST_INT) {
            return invalidInt();
        }
        if (!isMultiple(magnitudeOf(a), -unitOf(a))) {
            raise(INEXACT);
        }
        return (int) value;
    }

    public int fromInt(int v) {
        return rounded(signOf(v), Math.abs((long) v), 0);
    }

    public int compare(int a, int b) {
        if (isNoNumber(a) || isNoNumber(b)) {
            noNumber(isLoud(a) || isLoud(b));
            return UNORDERED;
        }
        int placeOfA = place(a);
        int placeOfB = place(b);
        if (placeOfA == placeOfB) {
            return 0;
        }
        return placeOfA < placeOfB ? -1 : 1;
    }

    public int next(int a) {
        if (isNoNumber(a)) {
            return noNumber(isLoud(a));
        }
        if (a == INFINITY) {
            return a;
        }
        if (isZero(a)) {
            return 1;
        }
        return isNegative(a) ? a - 1 : a + 1;
    }

    public int kind(int a) {
        return kindWithoutSign(a) + (isNegative(a) ? KIND_NEGATIVE : 0);
    }

    private static int kindWithoutSign(int a) {
        if (isNoNumber(a)) {
            return isLoud(a) ? KIND_LOUD : KIND_QUIET;
        }
        if (isInfinite(a)) {
            return KIND_INFINITE;
        }
        if (isZero(a)) {
            return KIND_ZERO;
        }
        return exponentOf(a) == 0 ? KIND_SMALL : KIND_ORDINARY;
    }

    // ---- what a pattern is ----

    private static boolean isNegative(int a) {
        return a < 0;
    }

    private static int signOf(int a) {
        return a & SIGN_BIT;
    }

    private static int exponentOf(int a) {
        return (a & ALL_BUT_SIGN) >> FRACTION_BITS;
    }

    private static boolean isNoNumber(int a) {
        return (a & ALL_BUT_SIGN) > INFINITY;
    }

    private static boolean isLoud(int a) {
        return isNoNumber(a) && (a & FRACTION_MASK) < LEAST_QUIET;
    }

    private static boolean isInfinite(int a) {
        return (a & ALL_BUT_SIGN) == INFINITY;
    }

    private static boolean isFinite(int a) {
        return (a & ALL_BUT_SIGN) < INFINITY;
    }

    private static boolean isZero(int a) {
        return (a & ALL_BUT_SIGN) == 0;
    }

    private static boolean isZeroTimesInfinite(int a, int b) {
        return (isZero(a) && isInfinite(b)) || (isInfinite(a) && isZero(b));
    }

    private static long magnitudeOf(int a) {
        int fraction = a & FRACTION_MASK;
        return exponentOf(a) == 0 ? fraction : HIDDEN_BIT + fraction;
    }

    private static int unitOf(int a) {
        return Math.max(exponentOf(a), 1) - 1 + LEAST_UNIT;
    }

    // Without the sign, patterns that are numbers stand in the order of their values.
    private static int place(int a) {
        int distance = a & ALL_BUT_SIGN;
        return isNegative(a) ? -distance : distance;
    }

    // ---- flags, and results that are no number ----

    private void raise(int flag) {
        raisedFlags |= flag;
    }

    private int noNumber(boolean loud) {
        if (loud) {
            raise(INVALID);
        }
        return NO_NUMBER;
    }

    private int invalid() {
        raise(INVALID);
        return NO_NUMBER;
    }

    private int invalidInt() {
        raise(INVALID);
        return LEAST_INT;
    }

    // ---- sums ----

    private int productPlus(int a, int b, int c) {
        // This comes first because it is invalid even if c is no number that is not loud.
        if (isZeroTimesInfinite(a, b)) {
            return invalid();
        }
        if (isNoNumber(a) || isNoNumber(b) || isNoNumber(c)) {
            return noNumber(isLoud(a) || isLoud(b) || isLoud(c));
        }
        int sign = signOf(a ^ b);
        if (isInfinite(a) || isInfinite(b)) {
            boolean against = isInfinite(c) && signOf(c) != sign;
            return against ? invalid() : sign | INFINITY;
        }
        if (isInfinite(c)) {
            return c;
        }
        return finiteSum(sign, magnitudeOf(a) * magnitudeOf(b), unitOf(a) + unitOf(b), c);
    }

    private int finiteSum(int sign, long magnitude, int unit, int c) {
        if (magnitude == 0 && isZero(c)) {
            return sign == signOf(c) ? sign : zeroOfMode();
        }
        if (magnitude == 0) {
            return c;
        }
        if (isZero(c)) {
            return rounded(sign, magnitude, unit);
        }
        // The part with the higher top gets 61 bits. Bits of the other are cut off only if its top
        // is far lower (parts have at most 48 bits), so that no difference can lose its top bits.
        int top = Math.max(unit + bitLength(magnitude), unitOf(c) + bitLength(magnitudeOf(c)));
        int sumUnit = top - 61;
        long first = aligned(magnitude, unit - sumUnit);
        long second = aligned(magnitudeOf(c), unitOf(c) - sumUnit);
        long sum = (sign == 0 ? first : -first) + (isNegative(c) ? -second : second);
        if (sum == 0) {
            return zeroOfMode();
        }
        return rounded(sum < 0 ? SIGN_BIT : 0, Math.abs(sum), sumUnit);
    }

    private int zeroOfMode() {
        return currentMode == DOWN ? SIGN_BIT : 0;
    }

    private static long aligned(long magnitude, int shift) {
        if (shift >= 0) {
            return magnitude << shift;
        }
        return withTrace(shiftedRight(magnitude, -shift), !isMultiple(magnitude, -shift));
    }

    // ---- rounding ----

    /** What sign, magnitude and unit become when rounded; a magnitude 0 is the zero of the sign. */
    private int rounded(int sign, long magnitude, int unit) {
        if (magnitude == 0) {
            return sign;
        }
        int freeUnit = unit + bitLength(magnitude) - PRECISION;
        int heldUnit = Math.max(freeUnit, LEAST_UNIT);
        if (!isMultiple(magnitude, heldUnit - unit)) {
            raise(INEXACT);
            if (isTiny(multiple(sign, magnitude, freeUnit - unit), freeUnit)) {
                raise(UNDERFLOW);
            }
        }
        // The hidden bit of the multiple adds 1 to the exponent, and so does a carry out of it.
        long exponent = heldUnit - LEAST_UNIT;
        long pattern = (exponent << FRACTION_BITS) + multiple(sign, magnitude, heldUnit - unit);
        return pattern < INFINITY ? sign | (int) pattern : overflowed(sign);
    }

    /** Whether multiple * 2^unit is below 2^-126, for a multiple from 2^23 to 2^24. */
    private static boolean isTiny(long multiple, int unit) {
        return unit + bitLength(multiple) < LEAST_UNIT + PRECISION;
    }

    private int overflowed(int sign) {
        raise(OVERFLOW | INEXACT);
        boolean toInfinity = currentMode == NEAREST || isAwayFromZero(sign);
        return sign | (toInfinity ? INFINITY : GREATEST_FINITE);
    }

    private boolean isAwayFromZero(int sign) {
        return sign == 0 ? currentMode == UP : currentMode == DOWN;
    }

    /** The neighbour, by the mode, of magnitude / 2^drop; with a drop below 0 it is exact. */
    private long multiple(int sign, long magnitude, int drop) {
        if (drop <= 0) {
            return magnitude << -drop;
        }
        long nearerToZero = shiftedRight(magnitude, drop);
        return isStepDue(sign, magnitude, drop) ? nearerToZero + 1 : nearerToZero;
    }

    private boolean isStepDue(int sign, long magnitude, int drop) {
        if (isMultiple(magnitude, drop)) {
            return false;
        }
        if (currentMode != NEAREST) {
            return isAwayFromZero(sign);
        }
        boolean half = (shiftedRight(magnitude, drop - 1) & 1) != 0;
        boolean moreThanHalf = half && !isMultiple(magnitude, drop - 1);
        boolean odd = (shiftedRight(magnitude, drop) & 1) != 0;
        return moreThanHalf || (half && odd);
    }

    // ---- bits of a magnitude ----

    private static int bitLength(long magnitude) {
        return 64 - Long.numberOfLeadingZeros(magnitude);
    }

    // Java takes a shift's count modulo 64, so greater ones need their own answer.
    private static long shiftedRight(long magnitude, int count) {
        return count > 63 ? 0 : magnitude >> count;
    }

    private static boolean isMultiple(long magnitude, int drop) {
        if (drop <= 0) {
            return true;
        }
        return drop > 63 ? magnitude == 0 : (magnitude & ((1L << drop) - 1)) == 0;
    }

    private static long withTrace(long magnitude, boolean somethingWasCutOff) {
        return somethingWasCutOff ? magnitude | 1 : magnitude;
    }

    private static long floorRoot(long square) {
        long found = 0;
        for (int bit = 30; bit >= 0; bit--) {
            long tried = found | (1L << bit);
            if (tried * tried <= square) {
                found = tried;
            }
        }
        return found;
    }
}
