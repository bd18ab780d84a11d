import java.math.BigInteger;

/**
 * A real number that is not rounded yet: a fraction of whole numbers of any length, or the square
 * root of one. It rounds by the words of the document, with none of RealBits' ways.
 */
final class Exact {
    private final int signum;
    private final BigInteger above;
    private final BigInteger below;
    private final boolean isRoot;

    /** What rounding gave: a multiple of 2^unit (without the sign), and whether it was one before. */
    record Multiple(BigInteger count, int unit, boolean wasExact) {
        boolean isBelowPower(int power) {
            return compare(count, unit, BigInteger.ONE, power) < 0;
        }
    }

    private Exact(int signum, BigInteger above, BigInteger below, boolean isRoot) {
        this.signum = signum;
        this.above = above;
        this.below = below;
        this.isRoot = isRoot;
    }

    static Exact fraction(BigInteger above, BigInteger below) {
        return new Exact(above.signum() * below.signum(), above.abs(), below.abs(), false);
    }

    static Exact ofPattern(int a) {
        int exponent = a >>> 23 & 255;
        long count = exponent == 0 ? a & 0x7FFFFF : a & 0x7FFFFF | 0x800000;
        return fraction(BigInteger.valueOf(a < 0 ? -count : count), BigInteger.ONE).timesPower(Math.max(exponent,
            1) - 150);
    }

    int signum() {
        return signum;
    }

    Exact plus(Exact other) {
        return fraction(signedAbove().multiply(other.below).add(other.signedAbove().multiply(below)),
            below.multiply(other.below));
    }

    Exact times(Exact other) {
        return fraction(signedAbove().multiply(other.signedAbove()), below.multiply(other.below));
    }

    Exact dividedBy(Exact other) {
        return fraction(signedAbove().multiply(other.below), below.multiply(other.signedAbove()));
    }

    Exact timesPower(int n) {
        return n >= 0
            ? fraction(signedAbove().shiftLeft(n), below)
            : fraction(signedAbove(), below.shiftLeft(-n));
    }

    Exact root() {
        return new Exact(signum, above, below, true);
    }

    private BigInteger signedAbove() {
        return signum < 0 ? above.negate() : above;
    }

    /** The greatest u for which the absolute value is at least 2^(u + 23). */
    int freeUnit() {
        int length = above.bitLength() - below.bitLength();
        int unit = (isRoot ? Math.floorDiv(length, 2) : length) - 23 + 3;
        while (compareSize(BigInteger.ONE, unit + 23) < 0) {
            unit--;
        }
        return unit;
    }

    Multiple toMultipleOf(int unit, int mode) {
        BigInteger lower = floor(unit);
        if (compareSize(lower, unit) == 0) {
            return new Multiple(lower, unit, true);
        }
        BigInteger upper = lower.add(BigInteger.ONE);
        boolean takeUpper = switch (mode) {
            case 0 -> isUpperNearest(lower, unit);
            case 1 -> false;
            case 2 -> signum > 0;
            default -> signum < 0;
        };
        return new Multiple(takeUpper ? upper : lower, unit, false);
    }

    private boolean isUpperNearest(BigInteger lower, int unit) {
        BigInteger middle = lower.shiftLeft(1).add(BigInteger.ONE);
        int side = compareSize(middle, unit - 1);
        return side > 0 || (side == 0 && lower.testBit(0));
    }

    private BigInteger floor(int unit) {
        int shift = isRoot ? -2 * unit : -unit;
        BigInteger quotient = shift >= 0
            ? above.shiftLeft(shift).divide(below)
            : above.divide(below.shiftLeft(-shift));
        return isRoot ? quotient.sqrt() : quotient;
    }

    /** The absolute value against count * 2^unit. */
    private int compareSize(BigInteger count, int unit) {
        return isRoot
            ? compare(above, 0, count.multiply(count).multiply(below), 2 * unit)
            : compare(above, 0, count.multiply(below), unit);
    }

    private static int compare(BigInteger a, int unitOfA, BigInteger b, int unitOfB) {
        int least = Math.min(unitOfA, unitOfB);
        return a.shiftLeft(unitOfA - least).compareTo(b.shiftLeft(unitOfB - least));
    }
}
