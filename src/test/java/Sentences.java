/** What the tests by sentence share: patterns with names, and calls looked at in every mode. */
abstract class Sentences {
    static final int INEXACT = 1;
    static final int UNDERFLOW = 2;
    static final int OVERFLOW = 4;
    static final int BY_ZERO = 8;
    static final int INVALID = 16;
    static final int TINY = UNDERFLOW | INEXACT;
    static final int HUGE = OVERFLOW | INEXACT;

    static final int SIGN = 0x80000000;
    static final int ZERO = 0;
    static final int MINUS_ZERO = SIGN;
    static final int LEAST = 1;
    static final int GREATEST_SMALL = 0x007FFFFF;
    static final int LEAST_ORDINARY = 0x00800000;
    static final int HALF = 0x3F000000;
    static final int ONE = 0x3F800000;
    static final int MINUS_ONE = ONE | SIGN;
    static final int TWO = 0x40000000;
    static final int THREE = 0x40400000;
    static final int FOUR = 0x40800000;
    static final int GREATEST = 0x7F7FFFFF;
    static final int INFINITE = 0x7F800000;
    static final int MINUS_INFINITE = INFINITE | SIGN;
    static final int NO_NUMBER = 2143289344;

    static final int[] SIGNS = {0, SIGN};
    static final int[] ZEROS = {ZERO, MINUS_ZERO};
    static final int[] INFINITES = {INFINITE, MINUS_INFINITE};
    static final int[] QUIET = {0x7FC00000, 0x7FC00001, 0x7FFFFFFF, 0xFFC00000, 0xFFFFFFFF};
    static final int[] LOUD = {0x7F800001, 0x7FBFFFFF, 0xFF800001, 0xFFBFFFFF, 0x7FA00000};
    /** Finite, not zero, positive: both ends of those with the exponent 0 and of the others. */
    static final int[] FINITES = {LEAST, GREATEST_SMALL, LEAST_ORDINARY, ONE, THREE, GREATEST};

    static final int[] ZERO_OF_MODE = {ZERO, ZERO, ZERO, MINUS_ZERO};
    static final int[] TOO_GREAT = {INFINITE, GREATEST, INFINITE, GREATEST};

    static final Checks checks = new Checks();

    static int[] byMode(int nearest, int towardsZero, int up, int down) {
        return new int[] {nearest, towardsZero, up, down};
    }

    static int bits(double value) {
        float f = (float) value;
        if (f != value) {
            throw new IllegalArgumentException("no pattern has the value " + value);
        }
        return Float.floatToRawIntBits(f);
    }

    static void dueOnBothSides(int[] wants, int flags, String name, int... operands) {
        dueOnBothSides(wants, byMode(flags, flags, flags, flags), name, operands);
    }

    /** Also with the result's sign turned over: up and down then change places. */
    static void dueOnBothSides(int[] wants, int[] flags, String name, int... operands) {
        checks.dueByMode(wants, flags, name, operands);
        int[] other = byMode(wants[0] ^ SIGN, wants[1] ^ SIGN, wants[3] ^ SIGN, wants[2] ^ SIGN);
        int[] otherFlags = byMode(flags[0], flags[1], flags[3], flags[2]);
        checks.dueByMode(other, otherFlags, name, turnedOver(name, operands));
    }

    private static int[] turnedOver(String name, int[] operands) {
        int[] turned = operands.clone();
        turned[0] ^= SIGN;
        if (name.equals("add") || name.equals("subtract")) {
            turned[1] ^= SIGN;
        }
        if (name.equals("fused")) {
            turned[2] ^= SIGN;
        }
        return turned;
    }
}
