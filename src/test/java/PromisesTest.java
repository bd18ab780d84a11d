/** Each promise by hand: ordinary inputs, the edges that the document names, and wrong inputs. */
public final class PromisesTest {
    private static final int INEXACT = 1;
    private static final int UNDERFLOW = 2;
    private static final int OVERFLOW = 4;
    private static final int BY_ZERO = 8;
    private static final int INVALID = 16;
    private static final int TINY = UNDERFLOW | INEXACT;
    private static final int HUGE = OVERFLOW | INEXACT;

    private static final int SIGN = 0x80000000;
    private static final int ZERO = 0;
    private static final int MINUS_ZERO = SIGN;
    private static final int LEAST = 1;
    private static final int GREATEST_SMALL = 0x007FFFFF;
    private static final int LEAST_ORDINARY = 0x00800000;
    private static final int HALF = 0x3F000000;
    private static final int ONE = 0x3F800000;
    private static final int MINUS_ONE = ONE | SIGN;
    private static final int TWO = 0x40000000;
    private static final int THREE = 0x40400000;
    private static final int FOUR = 0x40800000;
    private static final int GREATEST = 0x7F7FFFFF;
    private static final int INFINITE = 0x7F800000;
    private static final int MINUS_INFINITE = INFINITE | SIGN;
    private static final int NO_NUMBER = 0x7FC00000;
    private static final int[] QUIET = {0x7FC00000, 0x7FC00001, 0x7FFFFFFF, 0xFFC00000, 0xFFFFFFFF};
    private static final int[] LOUD = {0x7F800001, 0x7FBFFFFF, 0xFF800001, 0xFFBFFFFF, 0x7FA00000};

    private static final Checks checks = new Checks();

    public static void main(String[] args) {
        newObject();
        modes();
        flagsStay();
        noNumbers();
        add();
        subtract();
        overflow();
        multiply();
        underflow();
        divide();
        root();
        fused();
        scale();
        whole();
        toInt();
        fromInt();
        compare();
        next();
        kind();
        objectsAreApart();
        checks.end("PromisesTest");
    }

    private static int[] byMode(int nearest, int towardsZero, int up, int down) {
        return new int[] {nearest, towardsZero, up, down};
    }

    private static int bits(double value) {
        float f = (float) value;
        if (f != value) {
            throw new IllegalArgumentException("no pattern has the value " + value);
        }
        return Float.floatToRawIntBits(f);
    }

    // Promise 1
    private static void newObject() {
        RealBits x = new RealBits();
        checks.due("a new object's flags", x.flags(), 0);
        checks.due("a new object's mode", x.mode(), 0);
        checks.due("a new object's clear", x.clear(), 0);
        // 1 + 3 * 2^-24 goes to 1 + 2^-22 in no mode but 0 and 2, and its negative in 0 and 3.
        checks.due("a new object rounds to the nearest", x.add(ONE, bits(3 * 0x1p-24)), 0x3F800002);
        checks.due("a new object rounds to the nearest", x.add(MINUS_ONE, bits(-3 * 0x1p-24)), 0xBF800002);
    }

    // Promises 2 and 3
    private static void modes() {
        RealBits x = new RealBits();
        for (int m : new int[] {3, 2, 1, 0, 2, 2}) {
            checks.due("round(" + m + ")", x.round(m) ? 1 : 0, 1);
            checks.due("mode() after round(" + m + ")", x.mode(), m);
        }
        for (int m : new int[] {4, -1, 5, 7, 8, 256, 258, Integer.MAX_VALUE, Integer.MIN_VALUE}) {
            checks.due("round(" + m + ")", x.round(m) ? 1 : 0, 0);
            checks.due("mode() after round(" + m + ")", x.mode(), 2);
        }
        checks.due("flags() after wrong modes", x.flags(), 0);
        x.divide(ONE, THREE);
        checks.due("round(9) with a flag set", x.round(9) ? 1 : 0, 0);
        checks.due("flags() after round(9)", x.flags(), INEXACT);
        checks.due("round(1) with a flag set", x.round(1) ? 1 : 0, 1);
        checks.due("flags() after round(1)", x.flags(), INEXACT);
    }

    // Promises 4 and 5
    private static void flagsStay() {
        RealBits x = new RealBits();
        x.add(ONE, LEAST);
        checks.due("flags: inexact", x.flags(), 1);
        x.multiply(LEAST, HALF);
        checks.due("flags: and underflow", x.flags(), 3);
        x.add(GREATEST, GREATEST);
        checks.due("flags: and overflow", x.flags(), 7);
        x.divide(ONE, ZERO);
        checks.due("flags: and divided by zero", x.flags(), 15);
        x.root(MINUS_ONE);
        checks.due("flags: and invalid", x.flags(), 31);
        x.add(ONE, ONE);
        checks.due("flags stay after an exact call", x.flags(), 31);
        x.round(3);
        checks.due("clear", x.clear(), 31);
        checks.due("flags after clear", x.flags(), 0);
        checks.due("mode after clear", x.mode(), 3);
        checks.due("clear again", x.clear(), 0);
        x.divide(MINUS_ONE, ZERO);
        checks.due("clear: divided by zero", x.clear(), 8);
    }

    private static void noNumbers() {
        for (int quiet : QUIET) {
            noNumberInEachPlace(quiet, 0);
            checks.dueInEveryMode(2, 0, "compare", quiet, ONE);
            checks.dueInEveryMode(2, 0, "compare", ZERO, quiet);
            checks.dueInEveryMode(2, 0, "compare", quiet, quiet);
            checks.dueInEveryMode(Integer.MIN_VALUE, INVALID, "toInt", quiet);
        }
        for (int loud : LOUD) {
            noNumberInEachPlace(loud, INVALID);
            checks.dueInEveryMode(2, INVALID, "compare", loud, ONE);
            checks.dueInEveryMode(2, INVALID, "compare", INFINITE, loud);
            checks.dueInEveryMode(2, INVALID, "compare", loud, QUIET[0]);
            checks.dueInEveryMode(2, INVALID, "compare", QUIET[3], loud);
            checks.dueInEveryMode(Integer.MIN_VALUE, INVALID, "toInt", loud);
        }
    }

    private static void noNumberInEachPlace(int none, int flags) {
        int[] others = {ZERO, MINUS_ZERO, LEAST, ONE, MINUS_ONE, INFINITE, MINUS_INFINITE, QUIET[0], QUIET[4]};
        for (int other : others) {
            for (String name : new String[] {"add", "subtract", "multiply", "divide"}) {
                checks.dueInEveryMode(NO_NUMBER, flags, name, none, other);
                checks.dueInEveryMode(NO_NUMBER, flags, name, other, none);
            }
            checks.dueInEveryMode(NO_NUMBER, flags, "fused", none, other, ONE);
            checks.dueInEveryMode(NO_NUMBER, flags, "fused", other, none, INFINITE);
            checks.dueInEveryMode(NO_NUMBER, flags, "fused", ONE, other, none);
            checks.dueInEveryMode(NO_NUMBER, flags, "fused", other, none, QUIET[1]);
        }
        for (String name : new String[] {"root", "whole", "next"}) {
            checks.dueInEveryMode(NO_NUMBER, flags, name, none);
        }
        for (int n : new int[] {0, 1, -1, 400, -401, Integer.MAX_VALUE}) {
            checks.dueInEveryMode(NO_NUMBER, flags, "scale", none, n);
        }
    }

    // Promise 6
    private static void add() {
        checks.dueInEveryMode(bits(3.5), 0, "add", ONE, bits(2.5));
        checks.dueInEveryMode(bits(-1.5), 0, "add", ONE, bits(-2.5));
        checks.dueInEveryMode(2, 0, "add", LEAST, LEAST);
        checks.dueInEveryMode(LEAST_ORDINARY, 0, "add", GREATEST_SMALL, LEAST);
        checks.dueInEveryMode(GREATEST_SMALL, 0, "add", LEAST_ORDINARY, LEAST | SIGN);

        // Ties: the even neighbour is below at 1, above at the next pattern.
        checks.dueByMode(byMode(ONE, ONE, ONE + 1, ONE), INEXACT, "add", ONE, bits(0x1p-24));
        checks.dueByMode(byMode(ONE + 2, ONE + 1, ONE + 2, ONE + 1), INEXACT, "add", ONE + 1, bits(0x1p-24));
        checks.dueByMode(byMode(MINUS_ONE, MINUS_ONE, MINUS_ONE, MINUS_ONE + 1), INEXACT,
            "add", MINUS_ONE, bits(-0x1p-24));
        checks.dueByMode(byMode(MINUS_ONE + 2, MINUS_ONE + 1, MINUS_ONE + 1, MINUS_ONE + 2), INEXACT,
            "add", MINUS_ONE + 1, bits(-0x1p-24));
        checks.dueByMode(byMode(ONE + 1, ONE, ONE + 1, ONE), INEXACT, "add", ONE, bits(0x1p-24) + 1);
        checks.dueByMode(byMode(ONE, ONE, ONE + 1, ONE), INEXACT, "add", ONE, bits(0x1p-24) - 1);
        checks.dueByMode(byMode(ONE, ONE, ONE + 1, ONE), INEXACT, "add", ONE, LEAST);

        // Just below a power of 2 the neighbours stand twice as close.
        checks.dueByMode(byMode(ONE, ONE - 1, ONE, ONE - 1), INEXACT, "add", ONE, bits(-0x1p-25));
        checks.dueByMode(byMode(ONE - 1, ONE - 1, ONE, ONE - 1), INEXACT, "add", ONE, bits(-0x1p-25) + 1);
        checks.dueByMode(byMode(ONE, ONE - 1, ONE, ONE - 1), INEXACT, "add", ONE, LEAST | SIGN);
        checks.dueByMode(byMode(ONE, ONE - 1, ONE, ONE - 1), INEXACT, "add", LEAST | SIGN, ONE);

        // However far apart the parts are, the lesser one is not lost.
        for (int exponent = 1; exponent < 103; exponent++) {
            int small = exponent << 23 | 0x00555555;
            checks.dueByMode(byMode(ONE, ONE, ONE + 1, ONE), INEXACT, "add", ONE, small);
            checks.dueByMode(byMode(ONE, ONE, ONE + 1, ONE), INEXACT, "add", small, ONE);
            checks.dueByMode(byMode(GREATEST | SIGN, (GREATEST | SIGN) - 1, (GREATEST | SIGN) - 1, GREATEST | SIGN),
                INEXACT, "add", GREATEST | SIGN, small);
        }

        zerosOfSums();
        checks.dueInEveryMode(INFINITE, 0, "add", INFINITE, INFINITE);
        checks.dueInEveryMode(MINUS_INFINITE, 0, "add", MINUS_INFINITE, MINUS_INFINITE);
        checks.dueInEveryMode(INFINITE, 0, "add", INFINITE, GREATEST | SIGN);
        checks.dueInEveryMode(MINUS_INFINITE, 0, "add", GREATEST, MINUS_INFINITE);
        checks.dueInEveryMode(INFINITE, 0, "add", MINUS_ZERO, INFINITE);
        checks.dueInEveryMode(NO_NUMBER, INVALID, "add", INFINITE, MINUS_INFINITE);
        checks.dueInEveryMode(NO_NUMBER, INVALID, "add", MINUS_INFINITE, INFINITE);
    }

    private static void zerosOfSums() {
        int[] byMode = byMode(ZERO, ZERO, ZERO, MINUS_ZERO);
        checks.dueInEveryMode(ZERO, 0, "add", ZERO, ZERO);
        checks.dueInEveryMode(MINUS_ZERO, 0, "add", MINUS_ZERO, MINUS_ZERO);
        checks.dueByMode(byMode, 0, "add", ZERO, MINUS_ZERO);
        checks.dueByMode(byMode, 0, "add", MINUS_ZERO, ZERO);
        for (int a : new int[] {LEAST, GREATEST_SMALL, LEAST_ORDINARY, ONE, GREATEST}) {
            checks.dueByMode(byMode, 0, "add", a, a | SIGN);
            checks.dueByMode(byMode, 0, "add", a | SIGN, a);
            checks.dueByMode(byMode, 0, "subtract", a, a);
            checks.dueByMode(byMode, 0, "subtract", a | SIGN, a | SIGN);
            for (int zero : new int[] {ZERO, MINUS_ZERO}) {
                checks.dueInEveryMode(a, 0, "add", a, zero);
                checks.dueInEveryMode(a | SIGN, 0, "add", zero, a | SIGN);
                checks.dueInEveryMode(a, 0, "subtract", a, zero);
                checks.dueInEveryMode(a | SIGN, 0, "subtract", zero, a);
            }
        }
        checks.dueByMode(byMode, 0, "subtract", ZERO, ZERO);
        checks.dueByMode(byMode, 0, "subtract", MINUS_ZERO, MINUS_ZERO);
        checks.dueInEveryMode(ZERO, 0, "subtract", ZERO, MINUS_ZERO);
        checks.dueInEveryMode(MINUS_ZERO, 0, "subtract", MINUS_ZERO, ZERO);
    }

    // Promise 7
    private static void subtract() {
        checks.dueInEveryMode(bits(-1.5), 0, "subtract", ONE, bits(2.5));
        checks.dueInEveryMode(bits(3.5), 0, "subtract", ONE, bits(-2.5));
        checks.dueInEveryMode(LEAST, 0, "subtract", LEAST_ORDINARY, GREATEST_SMALL);
        checks.dueInEveryMode(bits(0x1p-24), 0, "subtract", ONE, ONE - 1);
        checks.dueByMode(byMode(ONE, ONE - 1, ONE, ONE - 1), INEXACT, "subtract", ONE, bits(0x1p-25));
        checks.dueByMode(byMode(MINUS_ONE, MINUS_ONE - 1, MINUS_ONE - 1, MINUS_ONE), INEXACT,
            "subtract", LEAST, ONE);
        checks.dueInEveryMode(INFINITE, 0, "subtract", INFINITE, MINUS_INFINITE);
        checks.dueInEveryMode(MINUS_INFINITE, 0, "subtract", ONE, INFINITE);
        checks.dueInEveryMode(INFINITE, 0, "subtract", GREATEST | SIGN, MINUS_INFINITE);
        checks.dueInEveryMode(NO_NUMBER, INVALID, "subtract", INFINITE, INFINITE);
        checks.dueInEveryMode(NO_NUMBER, INVALID, "subtract", MINUS_INFINITE, MINUS_INFINITE);
    }

    private static void overflow() {
        int[] positive = byMode(INFINITE, GREATEST, INFINITE, GREATEST);
        int[] negative = byMode(MINUS_INFINITE, GREATEST | SIGN, GREATEST | SIGN, MINUS_INFINITE);
        checks.dueByMode(positive, HUGE, "add", GREATEST, GREATEST);
        checks.dueByMode(negative, HUGE, "add", GREATEST | SIGN, GREATEST | SIGN);
        checks.dueByMode(positive, HUGE, "multiply", GREATEST, TWO);
        checks.dueByMode(negative, HUGE, "multiply", GREATEST | SIGN, GREATEST);
        checks.dueByMode(positive, HUGE, "divide", GREATEST, LEAST);
        checks.dueByMode(negative, HUGE, "divide", GREATEST, bits(-0.5));
        checks.dueByMode(positive, HUGE, "scale", ONE, 128);
        checks.dueByMode(negative, HUGE, "scale", MINUS_ONE, 128);
        checks.dueByMode(positive, HUGE, "fused", GREATEST, GREATEST, GREATEST | SIGN);

        // Beyond the greatest by half a step or less: it is the rounding that makes 2^128, or not.
        int halfStep = bits(0x1p103);
        for (int mode = 0; mode < 4; mode++) {
            boolean toPower = mode == 0 || mode == 2;
            checks.dueCall(mode, toPower ? INFINITE : GREATEST, toPower ? HUGE : INEXACT, "add", GREATEST, halfStep);
            boolean up = mode == 2;
            checks.dueCall(mode, up ? INFINITE : GREATEST, up ? HUGE : INEXACT, "add", GREATEST, halfStep - 1);
            boolean down = mode == 3;
            checks.dueCall(mode, (down ? INFINITE : GREATEST) | SIGN, down ? HUGE : INEXACT,
                "subtract", GREATEST | SIGN, LEAST);
        }
        // Exactly 2^128 is too great in every mode.
        checks.dueByMode(positive, HUGE, "add", GREATEST, bits(0x1p104));
        checks.dueByMode(positive, HUGE, "add", bits(0x1p127), bits(0x1p127));
        checks.dueInEveryMode(GREATEST, 0, "add", GREATEST - 1, bits(0x1p104));
    }

    // Promise 8
    private static void multiply() {
        checks.dueInEveryMode(bits(-5.25), 0, "multiply", bits(1.5), bits(-3.5));
        checks.dueInEveryMode(bits(5.25), 0, "multiply", bits(-1.5), bits(-3.5));
        checks.dueInEveryMode(GREATEST, 0, "multiply", GREATEST, ONE);
        checks.dueInEveryMode(LEAST, 0, "multiply", LEAST, ONE);
        // (1 + 2^-23)^2 is 2^-46 above a pattern; (1 + 2^-12)(1 + 3 * 2^-12) ends in a tie.
        checks.dueByMode(byMode(ONE + 2, ONE + 2, ONE + 3, ONE + 2), INEXACT, "multiply", ONE + 1, ONE + 1);
        checks.dueByMode(byMode(0xBF802002, 0xBF802001, 0xBF802001, 0xBF802002), INEXACT,
            "multiply", bits(1 + 0x1p-12), bits(-1 - 3 * 0x1p-12));
        for (int a : new int[] {ZERO, LEAST, ONE, GREATEST}) {
            checks.dueInEveryMode(ZERO, 0, "multiply", ZERO, a);
            checks.dueInEveryMode(MINUS_ZERO, 0, "multiply", a, MINUS_ZERO);
            checks.dueInEveryMode(MINUS_ZERO, 0, "multiply", ZERO, a | SIGN);
            checks.dueInEveryMode(ZERO, 0, "multiply", a | SIGN, MINUS_ZERO);
        }
        for (int a : new int[] {LEAST, ONE, GREATEST, INFINITE}) {
            checks.dueInEveryMode(INFINITE, 0, "multiply", INFINITE, a);
            checks.dueInEveryMode(MINUS_INFINITE, 0, "multiply", a, MINUS_INFINITE);
            checks.dueInEveryMode(INFINITE, 0, "multiply", a | SIGN, MINUS_INFINITE);
        }
        for (int zero : new int[] {ZERO, MINUS_ZERO}) {
            for (int infinite : new int[] {INFINITE, MINUS_INFINITE}) {
                checks.dueInEveryMode(NO_NUMBER, INVALID, "multiply", zero, infinite);
                checks.dueInEveryMode(NO_NUMBER, INVALID, "multiply", infinite, zero);
            }
        }
    }

    private static void underflow() {
        // Exact results below 2^-126 set no flag.
        checks.dueInEveryMode(0x00400000, 0, "multiply", LEAST_ORDINARY, HALF);
        checks.dueInEveryMode(LEAST, 0, "divide", 2, TWO);
        // Half of the least, and a product far below it.
        checks.dueByMode(byMode(0, 0, 1, 0), TINY, "multiply", LEAST, HALF);
        checks.dueByMode(byMode(SIGN, SIGN, SIGN, SIGN | 1), TINY, "multiply", LEAST | SIGN, HALF);
        checks.dueByMode(byMode(1, 0, 1, 0), TINY, "multiply", LEAST, HALF + 1);
        checks.dueByMode(byMode(2, 1, 2, 1), TINY, "multiply", 3, HALF);
        checks.dueByMode(byMode(0, 0, 1, 0), TINY, "multiply", LEAST, LEAST);
        checks.dueByMode(byMode(SIGN, SIGN, SIGN, SIGN | 1), TINY, "divide", LEAST, GREATEST | SIGN);

        // 2^-126 - 2^-150 stays below 2^-126 with u = -150, though most modes take it there with -149.
        int[] held = byMode(LEAST_ORDINARY, GREATEST_SMALL, LEAST_ORDINARY, GREATEST_SMALL);
        checks.dueByMode(held, TINY, "multiply", LEAST_ORDINARY, bits(1 - 0x1p-24));
        // 2^-126 - 2^-151 is a tie with u = -150, and 2^-126 is the even one: no underflow where it is taken.
        int[] flags = {INEXACT, TINY, INEXACT, TINY};
        for (int mode = 0; mode < 4; mode++) {
            checks.dueCall(mode, held[mode], flags[mode], "fused", bits(-0x1p-75), bits(0x1p-76), LEAST_ORDINARY);
        }
        // 2^-126 - 3 * 2^-151 stays below 2^-126 with u = -150 in each mode.
        checks.dueByMode(byMode(GREATEST_SMALL, GREATEST_SMALL, LEAST_ORDINARY, GREATEST_SMALL), TINY,
            "fused", bits(-0x1.8p-75), bits(0x1p-75), LEAST_ORDINARY);
        // At and above 2^-126 an inexact result is no underflow.
        checks.dueByMode(byMode(LEAST_ORDINARY, LEAST_ORDINARY, LEAST_ORDINARY + 1, LEAST_ORDINARY), INEXACT,
            "fused", LEAST, LEAST, LEAST_ORDINARY);
    }

    // Promise 9
    private static void divide() {
        checks.dueInEveryMode(bits(2.5), 0, "divide", bits(7.5), THREE);
        checks.dueInEveryMode(bits(-2.5), 0, "divide", bits(7.5), THREE | SIGN);
        checks.dueByMode(byMode(0x3EAAAAAB, 0x3EAAAAAA, 0x3EAAAAAB, 0x3EAAAAAA), INEXACT, "divide", ONE, THREE);
        checks.dueByMode(byMode(0xBEAAAAAB, 0xBEAAAAAA, 0xBEAAAAAA, 0xBEAAAAAB), INEXACT,
            "divide", MINUS_ONE, THREE);
        checks.dueInEveryMode(ONE, 0, "divide", LEAST, LEAST);
        checks.dueInEveryMode(bits(GREATEST_SMALL), 0, "divide", GREATEST_SMALL, LEAST);
        checks.dueInEveryMode(ONE, 0, "divide", GREATEST, GREATEST);
        // A tie among the small ones: 3 * 2^-149 / 2.
        checks.dueByMode(byMode(2, 1, 2, 1), TINY, "divide", 3, TWO);
        for (int a : new int[] {LEAST, ONE, GREATEST}) {
            checks.dueInEveryMode(INFINITE, BY_ZERO, "divide", a, ZERO);
            checks.dueInEveryMode(MINUS_INFINITE, BY_ZERO, "divide", a, MINUS_ZERO);
            checks.dueInEveryMode(MINUS_INFINITE, BY_ZERO, "divide", a | SIGN, ZERO);
            checks.dueInEveryMode(INFINITE, BY_ZERO, "divide", a | SIGN, MINUS_ZERO);
            checks.dueInEveryMode(ZERO, 0, "divide", ZERO, a);
            checks.dueInEveryMode(MINUS_ZERO, 0, "divide", MINUS_ZERO, a);
            checks.dueInEveryMode(ZERO, 0, "divide", MINUS_ZERO, a | SIGN);
            checks.dueInEveryMode(ZERO, 0, "divide", a, INFINITE);
            checks.dueInEveryMode(MINUS_ZERO, 0, "divide", a, MINUS_INFINITE);
            checks.dueInEveryMode(INFINITE, 0, "divide", INFINITE, a);
            checks.dueInEveryMode(MINUS_INFINITE, 0, "divide", INFINITE, a | SIGN);
        }
        for (int sign : new int[] {0, SIGN}) {
            checks.dueInEveryMode(INFINITE | sign, 0, "divide", INFINITE, sign);
            checks.dueInEveryMode(sign, 0, "divide", ZERO, INFINITE | sign);
            checks.dueInEveryMode(NO_NUMBER, INVALID, "divide", ZERO, sign);
            checks.dueInEveryMode(NO_NUMBER, INVALID, "divide", MINUS_ZERO, sign);
            checks.dueInEveryMode(NO_NUMBER, INVALID, "divide", INFINITE, INFINITE | sign);
            checks.dueInEveryMode(NO_NUMBER, INVALID, "divide", MINUS_INFINITE, INFINITE | sign);
        }
    }

    // Promise 10
    private static void root() {
        checks.dueInEveryMode(THREE, 0, "root", bits(9));
        checks.dueInEveryMode(bits(0.75), 0, "root", bits(0.5625));
        checks.dueInEveryMode(bits(0x1p-74), 0, "root", bits(0x1p-148));
        checks.dueInEveryMode(bits(0x1p-63), 0, "root", LEAST_ORDINARY);
        checks.dueByMode(byMode(0x3FB504F3, 0x3FB504F3, 0x3FB504F4, 0x3FB504F3), INEXACT, "root", TWO);
        checks.dueByMode(byMode(0x3FDDB3D7, 0x3FDDB3D7, 0x3FDDB3D8, 0x3FDDB3D7), INEXACT, "root", THREE);
        checks.dueByMode(byMode(0x1A3504F3, 0x1A3504F3, 0x1A3504F4, 0x1A3504F3), INEXACT, "root", LEAST);
        checks.dueByMode(byMode(0x5F7FFFFF, 0x5F7FFFFF, 0x5F800000, 0x5F7FFFFF), INEXACT, "root", GREATEST);
        checks.dueByMode(byMode(ONE, ONE, ONE + 1, ONE), INEXACT, "root", ONE + 1);
        checks.dueInEveryMode(ZERO, 0, "root", ZERO);
        checks.dueInEveryMode(MINUS_ZERO, 0, "root", MINUS_ZERO);
        checks.dueInEveryMode(INFINITE, 0, "root", INFINITE);
        for (int a : new int[] {LEAST, LEAST_ORDINARY, ONE, GREATEST, INFINITE}) {
            checks.dueInEveryMode(NO_NUMBER, INVALID, "root", a | SIGN);
        }
    }

    // Promise 11
    private static void fused() {
        checks.dueInEveryMode(bits(14.5), 0, "fused", THREE, FOUR, bits(2.5));
        checks.dueInEveryMode(bits(-9.5), 0, "fused", THREE, FOUR | SIGN, bits(2.5));
        // Rounded once: 2^-46 is left of (1 + 2^-23)^2 when its upper bits are taken away.
        checks.dueInEveryMode(bits(0x1p-46), 0, "fused", ONE + 1, ONE + 1, (ONE + 2) | SIGN);
        checks.dueInEveryMode(GREATEST, 0, "fused", GREATEST, TWO, GREATEST | SIGN);
        checks.dueByMode(byMode(ONE + 1, ONE, ONE + 1, ONE), INEXACT, "fused", bits(0x1p-12) + 1, bits(0x1p-12), ONE);
        checks.dueByMode(byMode(ONE, ONE, ONE + 1, ONE), INEXACT, "fused", bits(0x1p-12), bits(0x1p-12), ONE);
        checks.dueByMode(byMode(ONE, ONE - 1, ONE, ONE - 1), INEXACT, "fused", LEAST, LEAST | SIGN, ONE);
        checks.dueByMode(byMode(GREATEST, GREATEST - 1, GREATEST, GREATEST - 1), INEXACT,
            "fused", LEAST, LEAST | SIGN, GREATEST);
        checks.dueByMode(byMode(1, 1, 2, 1), TINY, "fused", LEAST, LEAST, LEAST);
        checks.dueByMode(byMode(1, 0, 1, 0), TINY, "fused", LEAST, LEAST | SIGN, LEAST);
        zerosOfFused();
        infiniteFused();
    }

    private static void zerosOfFused() {
        int[] byMode = byMode(ZERO, ZERO, ZERO, MINUS_ZERO);
        checks.dueByMode(byMode, 0, "fused", THREE, FOUR, bits(-12));
        checks.dueByMode(byMode, 0, "fused", THREE | SIGN, FOUR, bits(12));
        checks.dueInEveryMode(ZERO, 0, "fused", ZERO, ONE, ZERO);
        checks.dueInEveryMode(ZERO, 0, "fused", MINUS_ONE, MINUS_ZERO, ZERO);
        checks.dueInEveryMode(MINUS_ZERO, 0, "fused", ZERO, MINUS_ONE, MINUS_ZERO);
        checks.dueInEveryMode(MINUS_ZERO, 0, "fused", GREATEST, MINUS_ZERO, MINUS_ZERO);
        checks.dueByMode(byMode, 0, "fused", ZERO, ONE, MINUS_ZERO);
        checks.dueByMode(byMode, 0, "fused", ZERO, MINUS_ONE, ZERO);
        checks.dueInEveryMode(LEAST, 0, "fused", ZERO, MINUS_ONE, LEAST);
        // A product that only rounds to 0 is no zero: the result has its sign, not that of the mode.
        checks.dueByMode(byMode(0, 0, 1, 0), TINY, "fused", LEAST, LEAST, MINUS_ZERO);
        checks.dueByMode(byMode(SIGN, SIGN, SIGN, SIGN | 1), TINY, "fused", LEAST, LEAST | SIGN, ZERO);
    }

    private static void infiniteFused() {
        int[] thirds = {ZERO, MINUS_ONE, INFINITE, MINUS_INFINITE, QUIET[0], QUIET[4], LOUD[0]};
        for (int c : thirds) {
            checks.dueInEveryMode(NO_NUMBER, INVALID, "fused", ZERO, INFINITE, c);
            checks.dueInEveryMode(NO_NUMBER, INVALID, "fused", MINUS_INFINITE, ZERO, c);
            checks.dueInEveryMode(NO_NUMBER, INVALID, "fused", MINUS_ZERO, MINUS_INFINITE, c);
        }
        checks.dueInEveryMode(NO_NUMBER, INVALID, "fused", INFINITE, ONE, MINUS_INFINITE);
        checks.dueInEveryMode(NO_NUMBER, INVALID, "fused", MINUS_ONE, INFINITE, INFINITE);
        checks.dueInEveryMode(NO_NUMBER, INVALID, "fused", MINUS_INFINITE, INFINITE, INFINITE);
        checks.dueInEveryMode(NO_NUMBER, 0, "fused", INFINITE, INFINITE, QUIET[1]);
        checks.dueInEveryMode(INFINITE, 0, "fused", INFINITE, ONE, INFINITE);
        checks.dueInEveryMode(MINUS_INFINITE, 0, "fused", INFINITE, MINUS_ONE, GREATEST);
        checks.dueInEveryMode(MINUS_INFINITE, 0, "fused", LEAST, MINUS_INFINITE, MINUS_INFINITE);
        // A finite product, however great, does not stand against an infinite c.
        checks.dueInEveryMode(MINUS_INFINITE, 0, "fused", GREATEST, GREATEST, MINUS_INFINITE);
        checks.dueInEveryMode(INFINITE, 0, "fused", ZERO, GREATEST, INFINITE);
    }

    // Promise 12
    private static void scale() {
        checks.dueInEveryMode(bits(12), 0, "scale", THREE, 2);
        checks.dueInEveryMode(bits(-0.375), 0, "scale", THREE | SIGN, -3);
        checks.dueInEveryMode(LEAST, 0, "scale", ONE, -149);
        checks.dueInEveryMode(ONE, 0, "scale", LEAST, 149);
        checks.dueInEveryMode(bits(0x1p127), 0, "scale", LEAST, 276);
        checks.dueInEveryMode(LEAST_ORDINARY, 0, "scale", LEAST_ORDINARY, 0);
        checks.dueByMode(byMode(0, 0, 1, 0), TINY, "scale", ONE, -150);
        checks.dueByMode(byMode(1, 0, 1, 0), TINY, "scale", ONE + 1, -150);
        checks.dueByMode(byMode(2, 1, 2, 1), TINY, "scale", THREE, -150);
        checks.dueByMode(byMode(LEAST_ORDINARY, GREATEST_SMALL, LEAST_ORDINARY, GREATEST_SMALL), TINY,
            "scale", TWO - 1, -127);
        int[] positive = byMode(INFINITE, GREATEST, INFINITE, GREATEST);
        int[] negative = byMode(MINUS_INFINITE, GREATEST | SIGN, GREATEST | SIGN, MINUS_INFINITE);
        for (int n : new int[] {277, 399, 400, 401, 1000, Integer.MAX_VALUE}) {
            checks.dueByMode(positive, HUGE, "scale", LEAST, n);
            checks.dueByMode(negative, HUGE, "scale", GREATEST | SIGN, n);
        }
        for (int n : new int[] {-278, -399, -400, -401, -1000, Integer.MIN_VALUE}) {
            checks.dueByMode(byMode(0, 0, 1, 0), TINY, "scale", GREATEST, n);
            checks.dueByMode(byMode(SIGN, SIGN, SIGN, SIGN | 1), TINY, "scale", LEAST | SIGN, n);
        }
        for (int n : new int[] {0, 5, -5, 400, -400, Integer.MAX_VALUE, Integer.MIN_VALUE}) {
            for (int a : new int[] {ZERO, MINUS_ZERO, INFINITE, MINUS_INFINITE}) {
                checks.dueInEveryMode(a, 0, "scale", a, n);
            }
        }
    }

    // Promise 13
    private static void whole() {
        for (double same : new double[] {1, -1, 2, 8388607, -8388609, 16777216, 0x1p31, 0x1p127}) {
            checks.dueInEveryMode(bits(same), 0, "whole", bits(same));
        }
        for (int a : new int[] {ZERO, MINUS_ZERO, INFINITE, MINUS_INFINITE, GREATEST}) {
            checks.dueInEveryMode(a, 0, "whole", a);
        }
        wholeByMode(2.5, 2, 2, 3, 2);
        wholeByMode(3.5, 4, 3, 4, 3);
        wholeByMode(-2.5, -2, -2, -2, -3);
        wholeByMode(-3.5, -4, -3, -3, -4);
        wholeByMode(2.25, 2, 2, 3, 2);
        wholeByMode(-2.75, -3, -2, -2, -3);
        wholeByMode(8388607.5, 8388608, 8388607, 8388608, 8388607);
        wholeByMode(-4194303.5, -4194304, -4194303, -4194303, -4194304);
        wholeByMode(0.5, 0, 0, 1, 0);
        wholeByMode(-0.5, -0.0, -0.0, -0.0, -1);
        wholeByMode(1.5, 2, 1, 2, 1);
        checks.dueByMode(byMode(ONE, ZERO, ONE, ZERO), INEXACT, "whole", HALF + 1);
        checks.dueByMode(byMode(ZERO, ZERO, ONE, ZERO), INEXACT, "whole", HALF - 1);
        for (int exponent = 0; exponent < 126; exponent++) {
            int small = exponent << 23 | 0x00555555;
            checks.dueByMode(byMode(ZERO, ZERO, ONE, ZERO), INEXACT, "whole", small);
            checks.dueByMode(byMode(0, 0, 0, -1), INEXACT, "toInt", small | SIGN);
        }
        // The least ones: no underflow, and the sign stays.
        checks.dueByMode(byMode(ZERO, ZERO, ONE, ZERO), INEXACT, "whole", LEAST);
        checks.dueByMode(byMode(SIGN, SIGN, SIGN, MINUS_ONE), INEXACT, "whole", LEAST | SIGN);
        checks.dueByMode(byMode(SIGN, SIGN, SIGN, MINUS_ONE), INEXACT, "whole", LEAST_ORDINARY | SIGN);
    }

    private static void wholeByMode(double a, double nearest, double towardsZero, double up, double down) {
        int[] results = byMode(bits(nearest), bits(towardsZero), bits(up), bits(down));
        checks.dueByMode(results, INEXACT, "whole", bits(a));
        int[] ints = byMode((int) nearest, (int) towardsZero, (int) up, (int) down);
        checks.dueByMode(ints, INEXACT, "toInt", bits(a));
    }

    // Promise 14
    private static void toInt() {
        checks.dueInEveryMode(0, 0, "toInt", ZERO);
        checks.dueInEveryMode(0, 0, "toInt", MINUS_ZERO);
        checks.dueInEveryMode(-7, 0, "toInt", bits(-7));
        checks.dueInEveryMode(16777216, 0, "toInt", bits(16777216));
        checks.dueInEveryMode(2147483520, 0, "toInt", bits(2147483520));
        checks.dueInEveryMode(-2147483520, 0, "toInt", bits(-2147483520));
        checks.dueInEveryMode(Integer.MIN_VALUE, 0, "toInt", bits(-0x1p31));
        checks.dueByMode(byMode(0, 0, 1, 0), INEXACT, "toInt", LEAST);
        checks.dueByMode(byMode(0, 0, 0, -1), INEXACT, "toInt", LEAST | SIGN);
        int[] wrong = {bits(0x1p31), bits(0x1p31) + 1, bits(-0x1p31) + 1, bits(0x1p32), bits(-0x1p32), bits(0x1p63),
            bits(-0x1p64), bits(0x1p95), bits(0x1.8p87), GREATEST, GREATEST | SIGN, INFINITE, MINUS_INFINITE};
        for (int a : wrong) {
            checks.dueInEveryMode(Integer.MIN_VALUE, INVALID, "toInt", a);
        }
        RealBits x = new RealBits();
        x.divide(ONE, THREE);
        x.toInt(INFINITE);
        checks.due("INEXACT that was set stays after a wrong toInt", x.flags(), INVALID | INEXACT);
    }

    // Promise 15
    private static void fromInt() {
        for (int v : new int[] {0, 1, -1, 7, 16777215, 16777216, -16777216, 16777218, 1 << 30, Integer.MIN_VALUE}) {
            checks.dueInEveryMode(bits(v), 0, "fromInt", v);
        }
        fromIntByMode(16777217, 16777216, 16777216, 16777218, 16777216);
        fromIntByMode(16777219, 16777220, 16777218, 16777220, 16777218);
        fromIntByMode(-16777217, -16777216, -16777216, -16777216, -16777218);
        fromIntByMode(-16777219, -16777220, -16777218, -16777218, -16777220);
        fromIntByMode(33554435, 33554436, 33554432, 33554436, 33554432);
        fromIntByMode(Integer.MAX_VALUE, 0x1p31, 2147483520, 0x1p31, 2147483520);
        fromIntByMode(-Integer.MAX_VALUE, -0x1p31, -2147483520, -2147483520, -0x1p31);
        fromIntByMode(2147483583, 2147483520, 2147483520, 0x1p31, 2147483520);
    }

    private static void fromIntByMode(int v, double nearest, double towardsZero, double up, double down) {
        int[] results = byMode(bits(nearest), bits(towardsZero), bits(up), bits(down));
        checks.dueByMode(results, INEXACT, "fromInt", v);
    }

    // Promise 16
    private static void compare() {
        int[] rising = {MINUS_INFINITE, GREATEST | SIGN, TWO | SIGN, MINUS_ONE, LEAST_ORDINARY | SIGN,
            GREATEST_SMALL | SIGN, LEAST | SIGN, ZERO, LEAST, GREATEST_SMALL, LEAST_ORDINARY, HALF, ONE, TWO,
            GREATEST, INFINITE};
        for (int i = 0; i < rising.length; i++) {
            for (int j = 0; j < rising.length; j++) {
                checks.dueInEveryMode(Integer.compare(i, j), 0, "compare", rising[i], rising[j]);
            }
            checks.dueInEveryMode(Integer.signum(rising[i]), 0, "compare", rising[i], MINUS_ZERO);
        }
        checks.dueInEveryMode(0, 0, "compare", ZERO, MINUS_ZERO);
        checks.dueInEveryMode(0, 0, "compare", MINUS_ZERO, ZERO);
        checks.dueInEveryMode(0, 0, "compare", MINUS_ZERO, MINUS_ZERO);
    }

    // Promise 17
    private static void next() {
        checks.dueInEveryMode(ONE + 1, 0, "next", ONE);
        checks.dueInEveryMode(MINUS_ONE - 1, 0, "next", MINUS_ONE);
        checks.dueInEveryMode(TWO, 0, "next", TWO - 1);
        checks.dueInEveryMode(LEAST, 0, "next", ZERO);
        checks.dueInEveryMode(LEAST, 0, "next", MINUS_ZERO);
        checks.dueInEveryMode(2, 0, "next", LEAST);
        checks.dueInEveryMode(MINUS_ZERO, 0, "next", LEAST | SIGN);
        checks.dueInEveryMode(LEAST_ORDINARY, 0, "next", GREATEST_SMALL);
        checks.dueInEveryMode(GREATEST_SMALL | SIGN, 0, "next", LEAST_ORDINARY | SIGN);
        checks.dueInEveryMode(INFINITE, 0, "next", GREATEST);
        checks.dueInEveryMode(INFINITE, 0, "next", INFINITE);
        checks.dueInEveryMode(GREATEST | SIGN, 0, "next", MINUS_INFINITE);
    }

    // Promise 18
    private static void kind() {
        for (int a : LOUD) {
            checks.dueInEveryMode(a < 0 ? 8 : 0, 0, "kind", a);
        }
        for (int a : QUIET) {
            checks.dueInEveryMode(a < 0 ? 9 : 1, 0, "kind", a);
        }
        int[][] kinds = {{INFINITE, 2}, {ZERO, 3}, {LEAST, 4}, {0x00400000, 4}, {GREATEST_SMALL, 4},
            {LEAST_ORDINARY, 5}, {ONE, 5}, {GREATEST, 5}};
        for (int[] row : kinds) {
            checks.dueInEveryMode(row[1], 0, "kind", row[0]);
            checks.dueInEveryMode(row[1] + 8, 0, "kind", row[0] | SIGN);
        }
    }

    private static void objectsAreApart() {
        RealBits x = new RealBits();
        RealBits y = new RealBits();
        x.round(2);
        x.divide(ONE, ZERO);
        checks.due("another object's mode", y.mode(), 0);
        checks.due("another object's flags", y.flags(), 0);
        checks.due("clear of another object", y.clear(), 0);
        checks.due("flags of the first", x.flags(), BY_ZERO);
        for (int call = 0; call < 500; call++) {
            x.divide(ONE, THREE);
        }
        checks.due("flags after 500 calls more", x.flags(), BY_ZERO | INEXACT);
        checks.due("mode after 500 calls more", x.mode(), 2);
    }
}
