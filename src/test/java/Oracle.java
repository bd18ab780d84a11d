import java.math.BigInteger;

/** What the document asks of one call in one mode: the answer and the flags that the call sets. */
final class Oracle {
    private static final int INEXACT = 1;
    private static final int UNDERFLOW = 2;
    private static final int OVERFLOW = 4;
    private static final int BY_ZERO = 8;
    private static final int INVALID = 16;
    private static final int SIGN = 0x80000000;
    private static final int INFINITE = 0x7F800000;
    private static final int NO_NUMBER = 0x7FC00000;

    private final int mode;
    int flags = 0;

    Oracle(int mode) {
        this.mode = mode;
    }

    int answer(String name, int... p) {
        switch (name) {
            case "add": return sum(p[0], p[1]);
            case "subtract": return sum(p[0], p[1] ^ SIGN);
            case "multiply": return product(p[0], p[1]);
            case "divide": return quotient(p[0], p[1]);
            case "root": return root(p[0]);
            case "fused": return fused(p[0], p[1], p[2]);
            case "scale": return scaled(p[0], p[1]);
            case "whole": return whole(p[0]);
            case "toInt": return toInt(p[0]);
            case "fromInt": return p[0] == 0 ? 0 : rounded(Exact.fraction(BigInteger.valueOf(p[0]), BigInteger.ONE));
            case "compare": return compared(p[0], p[1]);
            case "next": return next(p[0]);
            case "kind": return kind(p[0]);
            default: throw new IllegalArgumentException(name);
        }
    }

    private int sum(int a, int b) {
        if (isNone(a) || isNone(b)) {
            return none(a, b);
        }
        if (isInfinite(a) && isInfinite(b) && a != b) {
            return invalid();
        }
        if (isInfinite(a) || isInfinite(b)) {
            return isInfinite(a) ? a : b;
        }
        return zeroOrRounded(Exact.ofPattern(a).plus(Exact.ofPattern(b)), isZero(a) && a == b, a);
    }

    private int product(int a, int b) {
        if (isNone(a) || isNone(b)) {
            return none(a, b);
        }
        if (isZero(a) && isInfinite(b) || isZero(b) && isInfinite(a)) {
            return invalid();
        }
        int sign = (a ^ b) & SIGN;
        if (isInfinite(a) || isInfinite(b)) {
            return INFINITE | sign;
        }
        return zeroOrRounded(Exact.ofPattern(a).times(Exact.ofPattern(b)), true, sign);
    }

    private int quotient(int a, int b) {
        if (isNone(a) || isNone(b)) {
            return none(a, b);
        }
        if (isZero(a) && isZero(b) || isInfinite(a) && isInfinite(b)) {
            return invalid();
        }
        int sign = (a ^ b) & SIGN;
        if (isZero(b) && !isInfinite(a)) {
            flags |= BY_ZERO;
        }
        if (isInfinite(a) || isZero(b)) {
            return INFINITE | sign;
        }
        if (isInfinite(b)) {
            return sign;
        }
        return zeroOrRounded(Exact.ofPattern(a).dividedBy(Exact.ofPattern(b)), true, sign);
    }

    private int root(int a) {
        if (isNone(a)) {
            return none(a);
        }
        if (isZero(a)) {
            return a;
        }
        if (a < 0) {
            return invalid();
        }
        return isInfinite(a) ? a : rounded(Exact.ofPattern(a).root());
    }

    private int fused(int a, int b, int c) {
        if (isZero(a) && isInfinite(b) || isZero(b) && isInfinite(a)) {
            return invalid();
        }
        if (isNone(a) || isNone(b) || isNone(c)) {
            return none(a, b, c);
        }
        int sign = (a ^ b) & SIGN;
        boolean infiniteProduct = isInfinite(a) || isInfinite(b);
        if (infiniteProduct && isInfinite(c) && c != (INFINITE | sign)) {
            return invalid();
        }
        if (infiniteProduct || isInfinite(c)) {
            return infiniteProduct ? INFINITE | sign : c;
        }
        Exact exact = Exact.ofPattern(a).times(Exact.ofPattern(b)).plus(Exact.ofPattern(c));
        return zeroOrRounded(exact, (isZero(a) || isZero(b)) && c == sign, c);
    }

    private int scaled(int a, int n) {
        if (isNone(a)) {
            return none(a);
        }
        if (isZero(a) || isInfinite(a)) {
            return a;
        }
        return rounded(Exact.ofPattern(a).timesPower(n < -400 ? -400 : n > 400 ? 400 : n));
    }

    private int whole(int a) {
        if (isNone(a)) {
            return none(a);
        }
        if (isZero(a) || isInfinite(a)) {
            return a;
        }
        Exact.Multiple multiple = Exact.ofPattern(a).toMultipleOf(0, mode);
        flags |= multiple.wasExact() ? 0 : INEXACT;
        // A whole number near a pattern has a pattern, and float finds it without rounding.
        return Float.floatToRawIntBits(multiple.count().floatValue()) | a & SIGN;
    }

    private int toInt(int a) {
        if (!isNone(a) && !isInfinite(a)) {
            Exact.Multiple multiple = Exact.ofPattern(a).toMultipleOf(0, mode);
            BigInteger value = a < 0 ? multiple.count().negate() : multiple.count();
            if (value.bitLength() < 32) {
                flags |= multiple.wasExact() ? 0 : INEXACT;
                return value.intValue();
            }
        }
        flags |= INVALID;
        return Integer.MIN_VALUE;
    }

    private int compared(int a, int b) {
        if (isNone(a) || isNone(b)) {
            none(a, b);
            return 2;
        }
        float left = Float.intBitsToFloat(a);
        float right = Float.intBitsToFloat(b);
        return left < right ? -1 : left > right ? 1 : 0;
    }

    private int next(int a) {
        return isNone(a) ? none(a) : Float.floatToRawIntBits(Math.nextUp(Float.intBitsToFloat(a)));
    }

    private static int kind(int a) {
        int exponent = a >>> 23 & 255;
        int fraction = a & 0x7FFFFF;
        int sign = a < 0 ? 8 : 0;
        if (exponent == 255) {
            return sign + (fraction == 0 ? 2 : fraction < 1 << 22 ? 0 : 1);
        }
        return sign + (exponent > 0 ? 5 : fraction > 0 ? 4 : 3);
    }

    private int zeroOrRounded(Exact exact, boolean signIsGiven, int sign) {
        if (exact.signum() != 0) {
            return rounded(exact);
        }
        return signIsGiven ? sign & SIGN : mode == 3 ? SIGN : 0;
    }

    private int rounded(Exact exact) {
        int sign = exact.signum() < 0 ? SIGN : 0;
        int freeUnit = exact.freeUnit();
        Exact.Multiple result = exact.toMultipleOf(Math.max(freeUnit, -149), mode);
        if (!result.wasExact()) {
            flags |= INEXACT;
        }
        if (!result.isBelowPower(128)) {
            flags |= OVERFLOW | INEXACT;
            boolean greatest = mode == 1 || mode == 2 && sign != 0 || mode == 3 && sign == 0;
            return sign | (greatest ? INFINITE - 1 : INFINITE);
        }
        if (!exact.toMultipleOf(-149, mode).wasExact() && exact.toMultipleOf(freeUnit, mode).isBelowPower(-126)) {
            flags |= UNDERFLOW;
        }
        return sign | patternOf(result);
    }

    // A multiple in range has at most 24 bits and a unit from -149 on, so these casts are exact.
    private static int patternOf(Exact.Multiple multiple) {
        double value = Math.scalb(multiple.count().doubleValue(), multiple.unit());
        return Float.floatToRawIntBits((float) value);
    }

    private int none(int... operands) {
        for (int a : operands) {
            if (isNone(a) && (a & 0x7FFFFF) < 1 << 22) {
                flags |= INVALID;
            }
        }
        return NO_NUMBER;
    }

    private int invalid() {
        flags |= INVALID;
        return NO_NUMBER;
    }

    private static boolean isNone(int a) {
        return (a >>> 23 & 255) == 255 && (a & 0x7FFFFF) > 0;
    }

    private static boolean isInfinite(int a) {
        return (a >>> 23 & 255) == 255 && (a & 0x7FFFFF) == 0;
    }

    private static boolean isZero(int a) {
        return a == 0 || a == SIGN;
    }
}
