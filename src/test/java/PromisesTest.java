/**
 * The sentences of the promises 1 to 18: each has a test of its own, under the promise's number and
 * its own words.
 */
public final class PromisesTest extends Sentences {
    public static void main(String[] args) {
        state();
        sums();
        productsAndRoots();
        fusedAndScaled();
        wholeNumbers();
        others();
        checks.end("PromisesTest");
    }

    private static void state() {
        checks.sentence("1: Mode 0, no flag set.", PromisesTest::newObject);
        checks.sentence("2: The mode becomes m", PromisesTest::modeBecomes);
        checks.sentence("2: false, and nothing is done, if m is not 0 .. 3.", PromisesTest::modeRefused);
        checks.sentence("3: The mode.", PromisesTest::modeAnswered);
        checks.sentence("4: The flags that are set, added.", PromisesTest::flagsAdded);
        checks.sentence("5: No flag is set any more", PromisesTest::clearTakesAll);
        checks.sentence("5: those that were, added.", PromisesTest::clearAnswers);
    }

    private static void sums() {
        checks.sentence("6: a + b.", PromisesTest::added);
        checks.sentence("6: INVALID: infinite ones of different signs.", PromisesTest::addInvalid);
        checks.sentence("7: a - b.", PromisesTest::subtracted);
        checks.sentence("7: INVALID: infinite ones of the same sign.", PromisesTest::subtractInvalid);
    }

    private static void productsAndRoots() {
        checks.sentence("8: a * b.", PromisesTest::multiplied);
        checks.sentence("8: INVALID: a zero and an infinite one.", PromisesTest::multiplyInvalid);
        checks.sentence("9: a / b.", PromisesTest::divided);
        checks.sentence("9: INVALID: two zeros", PromisesTest::divideZeros);
        checks.sentence("9: or two infinite ones", PromisesTest::divideInfinites);
        checks.sentence("9: If b is a zero and a finite and no zero: infinite, DIVIDED BY ZERO is set.",
            PromisesTest::dividedByZero);
        checks.sentence("10: The square root of a.", PromisesTest::roots);
        checks.sentence("10: That of a zero is that zero.", PromisesTest::rootOfZero);
        checks.sentence("10: INVALID: below 0.", PromisesTest::rootInvalid);
    }

    private static void fusedAndScaled() {
        checks.sentence("11: a * b + c", PromisesTest::fusedValues);
        checks.sentence("11: rounded once", PromisesTest::fusedRoundsOnce);
        checks.sentence("11: INVALID: a zero and an infinite one as a and b", PromisesTest::fusedInvalidProduct);
        checks.sentence("11: (also if c is no number)", PromisesTest::fusedInvalidWithNoNumber);
        checks.sentence("11: or a product that is infinite and an infinite c of another sign",
            PromisesTest::fusedInvalidSum);
        checks.sentence("12: a * 2^n for n from -400 to 400", PromisesTest::scaled);
        checks.sentence("12: a lesser n counts as -400", PromisesTest::scaledByLess);
        checks.sentence("12: a greater one as 400", PromisesTest::scaledByMore);
        checks.sentence("12: Infinite ones and zeros stay.", PromisesTest::scaleStays);
    }

    private static void wholeNumbers() {
        checks.sentence("13: the neighbours of a among the whole numbers are taken as for rounding",
            PromisesTest::whole);
        checks.sentence("13: and INEXACT set if it is none itself", PromisesTest::wholeInexact);
        checks.sentence("13: a result 0 has the sign of a", PromisesTest::wholeZero);
        checks.sentence("13: zeros and infinite ones stay", PromisesTest::wholeStays);
        checks.sentence("14: The int that whole(a) would be.", PromisesTest::toInt);
        checks.sentence("14: If that is not -2147483648 .. 2147483647", PromisesTest::toIntOutside);
        checks.sentence("14: or a is infinite or no number", PromisesTest::toIntOfOthers);
        checks.sentence("14: INVALID is set and INEXACT is not", PromisesTest::toIntFlags);
        checks.sentence("15: The pattern of the int v.", PromisesTest::fromInt);
    }

    private static void others() {
        checks.sentence("16: -1, 0, 1 as a is less than, has the same value as, is greater than b",
            PromisesTest::compared);
        checks.sentence("16: 2 if one of them is no number", PromisesTest::comparedNoNumber);
        checks.sentence("16: (INVALID is set if one of these is loud)", PromisesTest::comparedLoud);
        checks.sentence("17: The pattern of the least value, finite or infinite, above that of a",
            PromisesTest::next);
        checks.sentence("17: (the negative zero if that is 0)", PromisesTest::nextIsZero);
        checks.sentence("17: a itself if it is positive and infinite", PromisesTest::nextOfInfinite);
        checks.sentence("17: No number as said.", PromisesTest::nextOfNoNumber);
        checks.sentence("17: No other flags.", PromisesTest::nextFlags);
        checks.sentence("18: 0 no number that is loud", PromisesTest::kindLoud);
        checks.sentence("18: 1 one that is not", PromisesTest::kindQuiet);
        checks.sentence("18: 2 infinite", () -> dueKinds(2, INFINITE));
        checks.sentence("18: 3 zero", () -> dueKinds(3, ZERO));
        checks.sentence("18: 4 finite with the exponent 0 and no zero", () -> dueKinds(4, LEAST, 2, 0x00400000,
            GREATEST_SMALL));
        checks.sentence("18: 5 other finite ones", () -> dueKinds(5, LEAST_ORDINARY, LEAST_ORDINARY + 1, ONE,
            GREATEST));
        checks.sentence("18: 8 more if the sign is 1", PromisesTest::kindNegative);
    }

    // ---- promises 1 to 5 ----

    private static void newObject() {
        RealBits used = new RealBits();
        Checks.setEveryFlag(used, 3);
        RealBits x = new RealBits();
        checks.due("a new object's mode", x.mode(), 0);
        checks.due("a new object's flags", x.flags(), 0);
        checks.due("a new object's clear", x.clear(), 0);
        checks.due("a new object rounds to the nearest", x.divide(bits(-2), THREE), 0xBF2AAAAB);
        checks.due("the other object's mode", used.mode(), 3);
        checks.due("the other object's flags", used.flags(), 31);
    }

    private static void modeBecomes() {
        int[] ofPositive = byMode(0x3FD55555, 0x3FD55555, 0x3FD55556, 0x3FD55555);
        int[] ofNegative = byMode(0xBEAAAAAB, 0xBEAAAAAA, 0xBEAAAAAA, 0xBEAAAAAB);
        RealBits x = new RealBits();
        for (int m : new int[] {3, 2, 1, 0, 0, 1, 2, 3, 3, 1, 3, 0, 2, 0}) {
            checks.due("round(" + m + ")", x.round(m), true);
            checks.due("mode() after round(" + m + ")", x.mode(), m);
            checks.due("5 / 3 after round(" + m + ")", x.divide(bits(5), THREE), ofPositive[m]);
            checks.due("-1 / 3 after round(" + m + ")", x.divide(MINUS_ONE, THREE), ofNegative[m]);
        }
    }

    private static void modeRefused() {
        int[] refused = {4, -1, 5, 6, 7, 8, 16, 256, 259, 0x10001, Integer.MAX_VALUE, Integer.MIN_VALUE,
            Integer.MIN_VALUE + 3};
        int[] ofNegative = byMode(0xBEAAAAAB, 0xBEAAAAAA, 0xBEAAAAAA, 0xBEAAAAAB);
        int[] ofPositive = byMode(0x3FD55555, 0x3FD55555, 0x3FD55556, 0x3FD55555);
        for (int mode = 0; mode < 4; mode++) {
            for (int m : refused) {
                RealBits x = new RealBits();
                x.round(mode);
                checks.due("round(" + m + ")", x.round(m), false);
                checks.due("mode() after round(" + m + ")", x.mode(), mode);
                checks.due("flags() after round(" + m + ")", x.flags(), 0);
                checks.due("-1 / 3 after round(" + m + ")", x.divide(MINUS_ONE, THREE), ofNegative[mode]);
                checks.due("5 / 3 after round(" + m + ")", x.divide(bits(5), THREE), ofPositive[mode]);
                checks.due("round(" + m + ") with a flag set", x.round(m), false);
                checks.due("flags() after round(" + m + "), with one set", x.flags(), INEXACT);
            }
        }
    }

    private static void modeAnswered() {
        RealBits x = new RealBits();
        for (int m : new int[] {0, 1, 2, 3}) {
            x.round(m);
            Checks.setEveryFlag(x, m);
            checks.due("mode() after operations", x.mode(), m);
            x.clear();
            checks.due("mode() after clear()", x.mode(), m);
            checks.due("mode() again", x.mode(), m);
        }
    }

    private static void flagsAdded() {
        for (int mode = 0; mode < 4; mode++) {
            RealBits x = new RealBits();
            x.round(mode);
            checks.due("flags: none", x.flags(), 0);
            x.root(MINUS_ONE);
            checks.due("flags: invalid", x.flags(), 16);
            x.divide(ONE, ZERO);
            checks.due("flags: and divided by zero", x.flags(), 24);
            x.divide(MINUS_ONE, ZERO);
            checks.due("flags: and once more", x.flags(), 24);
            x.add(ONE, LEAST);
            checks.due("flags: and inexact", x.flags(), 25);
            x.add(GREATEST, GREATEST);
            checks.due("flags: and overflow", x.flags(), 29);
            x.multiply(LEAST, HALF);
            checks.due("flags: and underflow", x.flags(), 31);
            checks.due("flags: they are left", x.flags(), 31);
        }
    }

    private static void clearTakesAll() {
        for (int mode = 0; mode < 4; mode++) {
            RealBits x = new RealBits();
            Checks.setEveryFlag(x, mode);
            x.clear();
            checks.due("flags after clear", x.flags(), 0);
            checks.due("clear after clear", x.clear(), 0);
            checks.due("mode after clear", x.mode(), mode);
            x.add(ONE, ONE);
            checks.due("flags after clear and an exact sum", x.flags(), 0);
            x.divide(MINUS_ONE, ZERO);
            checks.due("a flag set after clear", x.flags(), BY_ZERO);
        }
    }

    private static void clearAnswers() {
        RealBits x = new RealBits();
        checks.due("clear: none", x.clear(), 0);
        x.add(ONE, LEAST);
        checks.due("clear: inexact", x.clear(), 1);
        x.multiply(LEAST, LEAST);
        checks.due("clear: underflow", x.clear(), 3);
        x.add(GREATEST, GREATEST);
        checks.due("clear: overflow", x.clear(), 5);
        x.divide(ONE, ZERO);
        checks.due("clear: divided by zero", x.clear(), 8);
        x.root(MINUS_ONE);
        checks.due("clear: invalid", x.clear(), 16);
        Checks.setEveryFlag(x, 0);
        checks.due("clear: all", x.clear(), 31);
    }

    // ---- promises 6 and 7 ----

    private static void added() {
        checks.dueInEveryMode(bits(3.5), 0, "add", ONE, bits(2.5));
        checks.dueInEveryMode(bits(-1.5), 0, "add", ONE, bits(-2.5));
        checks.dueInEveryMode(bits(1.5), 0, "add", bits(-1), bits(2.5));
        checks.dueInEveryMode(2, 0, "add", LEAST, LEAST);
        checks.dueInEveryMode(LEAST_ORDINARY, 0, "add", GREATEST_SMALL, LEAST);
        checks.dueInEveryMode(GREATEST_SMALL, 0, "add", LEAST_ORDINARY, LEAST | SIGN);
        checks.dueInEveryMode(GREATEST, 0, "add", GREATEST, ZERO);
        dueOnBothSides(byMode(ONE, ONE, ONE + 1, ONE), INEXACT, "add", LEAST, ONE);
        dueOnBothSides(byMode(ONE, ONE - 1, ONE, ONE - 1), INEXACT, "add", LEAST | SIGN, ONE);
        partsFarApart();
    }

    /** A power of 2 and one less than a quarter step, however far below it: nothing is lost. */
    private static void partsFarApart() {
        for (int distance = 26; distance < 277; distance++) {
            int part = distance > 149 ? LEAST : bits(Math.scalb(1.0, -distance));
            int great = distance > 149 ? bits(Math.scalb(1.0, distance - 149)) : ONE;
            dueOnBothSides(byMode(great, great, great + 1, great), INEXACT, "add", great, part);
            dueOnBothSides(byMode(great, great, great + 1, great), INEXACT, "add", part, great);
            dueOnBothSides(byMode(great, great - 1, great, great - 1), INEXACT, "subtract", great, part);
        }
    }

    private static void addInvalid() {
        checks.dueInEveryMode(NO_NUMBER, INVALID, "add", INFINITE, MINUS_INFINITE);
        checks.dueInEveryMode(NO_NUMBER, INVALID, "add", MINUS_INFINITE, INFINITE);
        checks.dueInEveryMode(INFINITE, 0, "add", INFINITE, INFINITE);
        checks.dueInEveryMode(MINUS_INFINITE, 0, "add", MINUS_INFINITE, MINUS_INFINITE);
        checks.dueInEveryMode(INFINITE, 0, "add", INFINITE, GREATEST | SIGN);
        checks.dueInEveryMode(MINUS_INFINITE, 0, "add", GREATEST, MINUS_INFINITE);
        checks.dueInEveryMode(NO_NUMBER, 0, "add", INFINITE, QUIET[3]);
    }

    private static void subtracted() {
        checks.dueInEveryMode(bits(-1.5), 0, "subtract", ONE, bits(2.5));
        checks.dueInEveryMode(bits(3.5), 0, "subtract", ONE, bits(-2.5));
        checks.dueInEveryMode(LEAST, 0, "subtract", LEAST_ORDINARY, GREATEST_SMALL);
        checks.dueInEveryMode(LEAST | SIGN, 0, "subtract", LEAST, 2);
        checks.dueInEveryMode(bits(0x1p-24), 0, "subtract", ONE, ONE - 1);
        dueOnBothSides(byMode(ONE, ONE - 1, ONE, ONE - 1), INEXACT, "subtract", ONE, bits(0x1p-25));
        dueOnBothSides(byMode(MINUS_ONE, MINUS_ONE - 1, MINUS_ONE - 1, MINUS_ONE), INEXACT, "subtract", LEAST, ONE);
    }

    private static void subtractInvalid() {
        checks.dueInEveryMode(NO_NUMBER, INVALID, "subtract", INFINITE, INFINITE);
        checks.dueInEveryMode(NO_NUMBER, INVALID, "subtract", MINUS_INFINITE, MINUS_INFINITE);
        checks.dueInEveryMode(INFINITE, 0, "subtract", INFINITE, MINUS_INFINITE);
        checks.dueInEveryMode(MINUS_INFINITE, 0, "subtract", MINUS_INFINITE, INFINITE);
        checks.dueInEveryMode(MINUS_INFINITE, 0, "subtract", GREATEST, INFINITE);
        checks.dueInEveryMode(NO_NUMBER, 0, "subtract", MINUS_INFINITE, QUIET[3]);
    }

    // ---- promises 8 to 10 ----

    private static void multiplied() {
        checks.dueInEveryMode(bits(-5.25), 0, "multiply", bits(1.5), bits(-3.5));
        checks.dueInEveryMode(bits(5.25), 0, "multiply", bits(-1.5), bits(-3.5));
        for (int a : FINITES) {
            checks.dueInEveryMode(a, 0, "multiply", a, ONE);
            checks.dueInEveryMode(a | SIGN, 0, "multiply", MINUS_ONE, a);
        }
        // (1 + 2^-23)^2 is 2^-46 above a pattern; the greatest fractions make the longest product.
        dueOnBothSides(byMode(ONE + 2, ONE + 2, ONE + 3, ONE + 2), INEXACT, "multiply", ONE + 1, ONE + 1);
        dueOnBothSides(byMode(FOUR - 2, FOUR - 2, FOUR - 1, FOUR - 2), INEXACT, "multiply", TWO - 1, TWO - 1);
        dueOnBothSides(byMode(0x4B7FFFFE, 0x4B7FFFFE, 0x4B7FFFFE, 0x4B7FFFFE), 0, "multiply", bits(8388607), TWO);
        // The least and the greatest exponents together.
        dueOnBothSides(byMode(0x34FFFFFF, 0x34FFFFFF, 0x34FFFFFF, 0x34FFFFFF), 0, "multiply", LEAST, GREATEST);
    }

    private static void multiplyInvalid() {
        for (int zero : ZEROS) {
            for (int infinite : INFINITES) {
                checks.dueInEveryMode(NO_NUMBER, INVALID, "multiply", zero, infinite);
                checks.dueInEveryMode(NO_NUMBER, INVALID, "multiply", infinite, zero);
            }
            checks.dueInEveryMode(zero, 0, "multiply", zero, GREATEST);
        }
        checks.dueInEveryMode(INFINITE, 0, "multiply", INFINITE, LEAST);
        checks.dueInEveryMode(NO_NUMBER, 0, "multiply", INFINITE, QUIET[0]);
        checks.dueInEveryMode(NO_NUMBER, 0, "multiply", QUIET[0], ZERO);
    }

    private static void divided() {
        checks.dueInEveryMode(bits(2.5), 0, "divide", bits(7.5), THREE);
        checks.dueInEveryMode(bits(-2.5), 0, "divide", bits(7.5), THREE | SIGN);
        dueOnBothSides(byMode(0x3EAAAAAB, 0x3EAAAAAA, 0x3EAAAAAB, 0x3EAAAAAA), INEXACT, "divide", ONE, THREE);
        dueOnBothSides(byMode(ONE - 2, ONE - 2, ONE - 1, ONE - 2), INEXACT, "divide", ONE, ONE + 1);
        dueOnBothSides(byMode(ONE + 2, ONE + 1, ONE + 2, ONE + 1), INEXACT, "divide", ONE + 1, ONE - 1);
        for (int a : FINITES) {
            checks.dueInEveryMode(ONE, 0, "divide", a, a);
            checks.dueInEveryMode(MINUS_ONE, 0, "divide", a, a | SIGN);
            checks.dueInEveryMode(a, 0, "divide", a, ONE);
        }
        checks.dueInEveryMode(bits(GREATEST_SMALL), 0, "divide", GREATEST_SMALL, LEAST);
        checks.dueInEveryMode(bits(0x1p22), 0, "divide", 0x00400000, LEAST);
        checks.dueInEveryMode(bits(0x1p-23), 0, "divide", LEAST, LEAST_ORDINARY);
    }

    private static void divideZeros() {
        for (int zero : ZEROS) {
            checks.dueInEveryMode(NO_NUMBER, INVALID, "divide", zero, ZERO);
            checks.dueInEveryMode(NO_NUMBER, INVALID, "divide", zero, MINUS_ZERO);
            checks.dueInEveryMode(zero, 0, "divide", zero, LEAST);
            checks.dueInEveryMode(zero, 0, "divide", zero, INFINITE);
            checks.dueInEveryMode(NO_NUMBER, 0, "divide", QUIET[0], zero);
        }
    }

    private static void divideInfinites() {
        for (int infinite : INFINITES) {
            checks.dueInEveryMode(NO_NUMBER, INVALID, "divide", infinite, INFINITE);
            checks.dueInEveryMode(NO_NUMBER, INVALID, "divide", infinite, MINUS_INFINITE);
            checks.dueInEveryMode(infinite, 0, "divide", infinite, GREATEST);
            checks.dueInEveryMode(infinite & SIGN, 0, "divide", GREATEST, infinite);
            checks.dueInEveryMode(NO_NUMBER, 0, "divide", infinite, QUIET[0]);
        }
    }

    private static void dividedByZero() {
        for (int a : FINITES) {
            checks.dueInEveryMode(INFINITE, BY_ZERO, "divide", a, ZERO);
            checks.dueInEveryMode(MINUS_INFINITE, BY_ZERO, "divide", a, MINUS_ZERO);
            checks.dueInEveryMode(MINUS_INFINITE, BY_ZERO, "divide", a | SIGN, ZERO);
            checks.dueInEveryMode(INFINITE, BY_ZERO, "divide", a | SIGN, MINUS_ZERO);
        }
        // An infinite a is not finite: no flag. The least divisor is no zero: too great, not divided by zero.
        for (int sign : SIGNS) {
            checks.dueInEveryMode(INFINITE | sign, 0, "divide", INFINITE, sign);
            checks.dueInEveryMode(INFINITE | sign, 0, "divide", MINUS_INFINITE, sign ^ SIGN);
        }
        checks.dueByMode(TOO_GREAT, HUGE, "divide", GREATEST, LEAST);
    }

    private static void roots() {
        checks.dueInEveryMode(THREE, 0, "root", bits(9));
        checks.dueInEveryMode(ONE, 0, "root", ONE);
        checks.dueInEveryMode(bits(0.75), 0, "root", bits(0.5625));
        checks.dueInEveryMode(bits(0x1p-74), 0, "root", bits(0x1p-148));
        checks.dueInEveryMode(bits(0x1p-63), 0, "root", LEAST_ORDINARY);
        checks.dueInEveryMode(bits(0x1p63), 0, "root", bits(0x1p126));
        checks.dueInEveryMode(bits(4095 * 0x1p-74), 0, "root", bits(4095 * 4095 * 0x1p-148));
        dueRoot(TWO, 0x3FB504F3, 0x3FB504F3);
        dueRoot(THREE, 0x3FDDB3D7, 0x3FDDB3D7);
        dueRoot(LEAST, 0x1A3504F3, 0x1A3504F3);
        dueRoot(GREATEST, 0x5F7FFFFF, 0x5F7FFFFF);
        dueRoot(ONE + 1, ONE, ONE);
        dueRoot(ONE - 1, ONE - 1, ONE - 1);
        dueRoot(ONE + 3, ONE + 1, ONE + 1);
        dueRoot(bits(5), 0x400F1BBD, 0x400F1BBC);
        rootsNearNeighboursAndTies();
    }

    // A few bits more than the result's own do not tell these from multiples, or from ties.
    private static void rootsNearNeighboursAndTies() {
        dueRoot(0x3F801675, 0x3F800B3A, 0x3F800B3A);
        dueRoot(0x4000001C, 0x3FB50507, 0x3FB50507);
        dueRoot(0x3F800002, 0x3F800001, 0x3F800000);
        dueRoot(0x40000045, 0x3FB50524, 0x3FB50523);
        dueRoot(0x3F801676, 0x3F800B3B, 0x3F800B3A);
        dueRoot(0x400000C5, 0x3FB5057F, 0x3FB5057E);
        dueRoot(0x3F800007, 0x3F800003, 0x3F800003);
        dueRoot(0x400000EE, 0x3FB5059B, 0x3FB5059B);
    }

    private static void dueRoot(int a, int nearest, int lesser) {
        checks.dueByMode(byMode(nearest, lesser, lesser + 1, lesser), INEXACT, "root", a);
    }

    private static void rootOfZero() {
        checks.dueInEveryMode(ZERO, 0, "root", ZERO);
        checks.dueInEveryMode(MINUS_ZERO, 0, "root", MINUS_ZERO);
    }

    private static void rootInvalid() {
        for (int a : FINITES) {
            checks.dueInEveryMode(NO_NUMBER, INVALID, "root", a | SIGN);
        }
        checks.dueInEveryMode(NO_NUMBER, INVALID, "root", MINUS_INFINITE);
        checks.dueInEveryMode(INFINITE, 0, "root", INFINITE);
        // No number with the sign 1 is not below 0.
        checks.dueInEveryMode(NO_NUMBER, 0, "root", 0xFFC00000);
        checks.dueInEveryMode(NO_NUMBER, 0, "root", 0xFFFFFFFF);
    }

    // ---- promises 11 and 12 ----

    private static void fusedValues() {
        checks.dueInEveryMode(bits(14.5), 0, "fused", THREE, FOUR, bits(2.5));
        checks.dueInEveryMode(bits(-9.5), 0, "fused", THREE, FOUR | SIGN, bits(2.5));
        checks.dueInEveryMode(bits(9.5), 0, "fused", THREE, FOUR, bits(-2.5));
        checks.dueInEveryMode(bits(12), 0, "fused", THREE, FOUR, ZERO);
        checks.dueInEveryMode(LEAST, 0, "fused", ZERO, MINUS_ONE, LEAST);
        checks.dueInEveryMode(GREATEST | SIGN, 0, "fused", MINUS_ZERO, ONE, GREATEST | SIGN);
        // One part is far beyond the other, on either side, and at the ends of the exponents.
        dueOnBothSides(byMode(ONE, ONE - 1, ONE, ONE - 1), INEXACT, "fused", LEAST, LEAST | SIGN, ONE);
        dueOnBothSides(byMode(GREATEST, GREATEST - 1, GREATEST, GREATEST - 1), INEXACT,
            "fused", LEAST, LEAST | SIGN, GREATEST);
        dueOnBothSides(byMode(1, 1, 2, 1), TINY, "fused", LEAST, LEAST, LEAST);
        dueOnBothSides(byMode(1, 0, 1, 0), TINY, "fused", LEAST, LEAST | SIGN, LEAST);
        dueOnBothSides(byMode(GREATEST, GREATEST, INFINITE, GREATEST), byMode(INEXACT, INEXACT, HUGE, INEXACT),
            "fused", GREATEST, ONE, LEAST);
        fusedFarApart();
    }

    /** A product from 2^-26 down to 2^-298 beside 1. */
    private static void fusedFarApart() {
        for (int power = -26; power >= -298; power--) {
            int first = bits(Math.scalb(1.0, power / 2));
            int second = bits(Math.scalb(1.0, power - power / 2));
            dueOnBothSides(byMode(ONE, ONE, ONE + 1, ONE), INEXACT, "fused", first, second, ONE);
            dueOnBothSides(byMode(ONE, ONE - 1, ONE, ONE - 1), INEXACT, "fused", first | SIGN, second, ONE);
        }
    }

    private static void fusedRoundsOnce() {
        // 2^-46 is left of (1 + 2^-23)^2 when its upper bits are taken away.
        checks.dueInEveryMode(bits(0x1p-46), 0, "fused", ONE + 1, ONE + 1, ONE + 2 | SIGN);
        checks.dueInEveryMode(bits(-0x1p-46), 0, "fused", ONE + 1 | SIGN, ONE + 1, ONE + 2);
        // The product alone would be infinite, or (2^-150, a tie) be 0.
        checks.dueInEveryMode(GREATEST, 0, "fused", GREATEST, TWO, GREATEST | SIGN);
        dueOnBothSides(byMode(2, 1, 2, 1), TINY, "fused", bits(0x1p-75), bits(0x1p-75), LEAST);
        // The product alone would be 2^-24, which makes a tie with 1; it is a little more.
        int power = bits(0x1p-12);
        dueOnBothSides(byMode(ONE + 1, ONE, ONE + 1, ONE), INEXACT, "fused", power + 1, power - 1, ONE);
    }

    private static void fusedInvalidProduct() {
        for (int zero : ZEROS) {
            for (int infinite : INFINITES) {
                for (int c : new int[] {ZERO, MINUS_ZERO, LEAST, MINUS_ONE, GREATEST, INFINITE, MINUS_INFINITE}) {
                    checks.dueInEveryMode(NO_NUMBER, INVALID, "fused", zero, infinite, c);
                    checks.dueInEveryMode(NO_NUMBER, INVALID, "fused", infinite, zero, c);
                }
            }
        }
        checks.dueInEveryMode(INFINITE, 0, "fused", LEAST, INFINITE, ZERO);
        // A zero and an infinite one, but not as a and b.
        checks.dueInEveryMode(INFINITE, 0, "fused", ZERO, ONE, INFINITE);
        checks.dueInEveryMode(INFINITE, 0, "fused", ONE, INFINITE, ZERO);
    }

    private static void fusedInvalidWithNoNumber() {
        for (int zero : ZEROS) {
            for (int infinite : INFINITES) {
                for (int quiet : QUIET) {
                    checks.dueInEveryMode(NO_NUMBER, INVALID, "fused", zero, infinite, quiet);
                    checks.dueInEveryMode(NO_NUMBER, INVALID, "fused", infinite, zero, quiet);
                }
                checks.dueInEveryMode(NO_NUMBER, INVALID, "fused", infinite, zero, LOUD[0]);
            }
            // Without the infinite one, or with no number in its place, nothing is set.
            checks.dueInEveryMode(NO_NUMBER, 0, "fused", zero, ONE, QUIET[0]);
            checks.dueInEveryMode(NO_NUMBER, 0, "fused", zero, QUIET[0], INFINITE);
        }
    }

    private static void fusedInvalidSum() {
        for (int infinite : INFINITES) {
            for (int a : new int[] {LEAST, ONE, GREATEST, INFINITE}) {
                checks.dueInEveryMode(NO_NUMBER, INVALID, "fused", infinite, a, infinite ^ SIGN);
                checks.dueInEveryMode(NO_NUMBER, INVALID, "fused", a | SIGN, infinite, infinite);
                checks.dueInEveryMode(infinite, 0, "fused", a, infinite, infinite);
                checks.dueInEveryMode(infinite, 0, "fused", infinite ^ SIGN, a | SIGN, infinite);
            }
            // A product that is finite, however great, and a c that is.
            checks.dueInEveryMode(infinite, 0, "fused", GREATEST, GREATEST ^ infinite & SIGN ^ SIGN, infinite);
            checks.dueInEveryMode(infinite, 0, "fused", infinite, ONE, GREATEST ^ infinite & SIGN ^ SIGN);
            checks.dueInEveryMode(NO_NUMBER, 0, "fused", infinite, ONE, QUIET[0]);
        }
    }

    private static void scaled() {
        checks.dueInEveryMode(bits(12), 0, "scale", THREE, 2);
        checks.dueInEveryMode(bits(-0.375), 0, "scale", THREE | SIGN, -3);
        for (int a : FINITES) {
            checks.dueInEveryMode(a, 0, "scale", a, 0);
        }
        checks.dueInEveryMode(LEAST, 0, "scale", ONE, -149);
        checks.dueInEveryMode(ONE, 0, "scale", LEAST, 149);
        checks.dueInEveryMode(LEAST, 0, "scale", bits(0x1p127), -276);
        checks.dueInEveryMode(bits(0x1p127), 0, "scale", LEAST, 276);
        checks.dueInEveryMode(0x7F7FFFFE, 0, "scale", GREATEST_SMALL, 254);
        dueOnBothSides(byMode(0, 0, 1, 0), TINY, "scale", ONE, -150);
        dueOnBothSides(byMode(1, 0, 1, 0), TINY, "scale", ONE + 1, -150);
        dueOnBothSides(byMode(2, 1, 2, 1), TINY, "scale", THREE, -150);
        dueOnBothSides(byMode(1, 0, 1, 0), TINY, "scale", GREATEST, -277);
        dueOnBothSides(byMode(0, 0, 1, 0), TINY, "scale", GREATEST, -279);
        dueOnBothSides(TOO_GREAT, HUGE, "scale", LEAST, 277);
        dueOnBothSides(TOO_GREAT, HUGE, "scale", LEAST, 399);
        dueOnBothSides(TOO_GREAT, HUGE, "scale", LEAST, 400);
        dueOnBothSides(byMode(0, 0, 1, 0), TINY, "scale", GREATEST, -399);
        dueOnBothSides(byMode(0, 0, 1, 0), TINY, "scale", GREATEST, -400);
    }

    // Counts near the ends of int would wrap around where they are added to an exponent.
    private static void scaledByLess() {
        for (int n : new int[] {-401, -402, -512, -656, -1000, -65536, 1 << 31 | 200, Integer.MIN_VALUE + 1,
            Integer.MIN_VALUE}) {
            for (int a : FINITES) {
                dueOnBothSides(byMode(0, 0, 1, 0), TINY, "scale", a, n);
            }
        }
    }

    private static void scaledByMore() {
        for (int n : new int[] {401, 402, 512, 656, 1000, 65536, Integer.MAX_VALUE - 200, Integer.MAX_VALUE - 1,
            Integer.MAX_VALUE}) {
            for (int a : FINITES) {
                dueOnBothSides(TOO_GREAT, HUGE, "scale", a, n);
            }
        }
    }

    private static void scaleStays() {
        for (int n : new int[] {0, 5, -5, 400, -400, 401, -401, Integer.MAX_VALUE, Integer.MIN_VALUE}) {
            for (int a : new int[] {ZERO, MINUS_ZERO, INFINITE, MINUS_INFINITE}) {
                checks.dueInEveryMode(a, 0, "scale", a, n);
            }
        }
    }

    // ---- promises 13 to 15 ----

    private static void whole() {
        dueWhole(1.5, 2, 1, 2, 1);
        dueWhole(2.5, 2, 2, 3, 2);
        dueWhole(3.5, 4, 3, 4, 3);
        dueWhole(2.25, 2, 2, 3, 2);
        dueWhole(2.75, 3, 2, 3, 2);
        dueWhole(0.5, 0, 0, 1, 0);
        dueWhole(0.75, 1, 0, 1, 0);
        // The last ones that are no whole numbers, and the last below and above a half.
        dueWhole(8388607.5, 8388608, 8388607, 8388608, 8388607);
        dueWhole(8388606.5, 8388606, 8388606, 8388607, 8388606);
        dueWhole(4194303.5, 4194304, 4194303, 4194304, 4194303);
        dueWhole(4194304.5, 4194304, 4194304, 4194305, 4194304);
        dueWhole(4194303.75, 4194304, 4194303, 4194304, 4194303);
        dueOnBothSides(byMode(ONE, ZERO, ONE, ZERO), INEXACT, "whole", HALF + 1);
        dueOnBothSides(byMode(ZERO, ZERO, ONE, ZERO), INEXACT, "whole", HALF - 1);
        dueOnBothSides(byMode(ONE, ONE, TWO, ONE), INEXACT, "whole", ONE + 1);
        dueOnBothSides(byMode(ONE, ZERO, ONE, ZERO), INEXACT, "whole", ONE - 1);
        // However small, no exponent shifts the number out of sight.
        for (int exponent = 0; exponent < 126; exponent++) {
            dueOnBothSides(byMode(ZERO, ZERO, ONE, ZERO), INEXACT, "whole", exponent << 23 | 0x00555555);
        }
    }

    private static void dueWhole(double a, double nearest, double towardsZero, double up, double down) {
        dueOnBothSides(byMode(bits(nearest), bits(towardsZero), bits(up), bits(down)), INEXACT, "whole", bits(a));
    }

    private static void wholeInexact() {
        for (double same : new double[] {1, 2, 3, 8388607, 8388608, 8388609, 16777215, 16777216, 0x1p31, 0x1p63,
            0x1p64, 0x1p127}) {
            checks.dueInEveryMode(bits(same), 0, "whole", bits(same));
            checks.dueInEveryMode(bits(-same), 0, "whole", bits(-same));
        }
        checks.dueInEveryMode(GREATEST, 0, "whole", GREATEST);
        dueOnBothSides(byMode(ONE, ONE, TWO, ONE), INEXACT, "whole", ONE + 1);
        // INEXACT alone: also the least ones are no UNDERFLOW here.
        dueOnBothSides(byMode(ZERO, ZERO, ONE, ZERO), INEXACT, "whole", LEAST);
        dueOnBothSides(byMode(ZERO, ZERO, ONE, ZERO), INEXACT, "whole", GREATEST_SMALL);
        dueOnBothSides(byMode(ZERO, ZERO, ONE, ZERO), INEXACT, "whole", LEAST_ORDINARY);
    }

    private static void wholeZero() {
        for (int a : new int[] {LEAST, LEAST_ORDINARY, bits(0.25), HALF}) {
            checks.dueByMode(byMode(ZERO, ZERO, ONE, ZERO), INEXACT, "whole", a);
            checks.dueByMode(byMode(MINUS_ZERO, MINUS_ZERO, MINUS_ZERO, MINUS_ONE), INEXACT, "whole", a | SIGN);
        }
        checks.dueByMode(byMode(MINUS_ONE, MINUS_ZERO, MINUS_ZERO, MINUS_ONE), INEXACT, "whole", MINUS_ONE - 1);
    }

    private static void wholeStays() {
        for (int a : new int[] {ZERO, MINUS_ZERO, INFINITE, MINUS_INFINITE}) {
            checks.dueInEveryMode(a, 0, "whole", a);
        }
    }

    private static void toInt() {
        for (int v : new int[] {0, 1, -1, 7, -7, 8388607, -8388609, 16777215, 16777216, 1 << 30, -2147483520,
            2147483520}) {
            checks.dueInEveryMode(v, 0, "toInt", bits(v));
        }
        checks.dueInEveryMode(0, 0, "toInt", MINUS_ZERO);
        dueToInt(2.5, 2, 2, 3, 2);
        dueToInt(-2.5, -2, -2, -2, -3);
        dueToInt(3.5, 4, 3, 4, 3);
        dueToInt(-3.5, -4, -3, -3, -4);
        dueToInt(2.25, 2, 2, 3, 2);
        dueToInt(-2.75, -3, -2, -2, -3);
        dueToInt(0.5, 0, 0, 1, 0);
        dueToInt(-0.5, 0, 0, 0, -1);
        dueToInt(0.75, 1, 0, 1, 0);
        dueToInt(8388607.5, 8388608, 8388607, 8388608, 8388607);
        dueToInt(-8388607.5, -8388608, -8388607, -8388607, -8388608);
        checks.dueByMode(byMode(0, 0, 0, -1), INEXACT, "toInt", LEAST | SIGN);
        for (int exponent = 0; exponent < 126; exponent++) {
            checks.dueByMode(byMode(0, 0, 1, 0), INEXACT, "toInt", exponent << 23 | 0x00555555);
        }
    }

    private static void dueToInt(double a, int nearest, int towardsZero, int up, int down) {
        checks.dueByMode(byMode(nearest, towardsZero, up, down), INEXACT, "toInt", bits(a));
    }

    private static void toIntOutside() {
        // The last ones inside, on either side.
        checks.dueInEveryMode(2147483520, 0, "toInt", bits(0x1p31) - 1);
        checks.dueInEveryMode(-2147483648, 0, "toInt", bits(-0x1p31));
        checks.dueInEveryMode(-2147483520, 0, "toInt", bits(-0x1p31) - 1);
        // From the first ones outside on, at each exponent, lest a shift bring one back inside.
        dueNoInt(bits(0x1p31));
        dueNoInt(bits(-0x1p31) + 1);
        for (int exponent = 158; exponent < 255; exponent++) {
            for (int fraction : new int[] {1, 0x100, 0x400000, 0x7FFFFF}) {
                dueNoInt(exponent << 23 | fraction);
                dueNoInt(SIGN | exponent << 23 | fraction);
            }
            dueNoInt(exponent << 23);
        }
        for (int exponent = 159; exponent < 255; exponent++) {
            dueNoInt(SIGN | exponent << 23);
        }
    }

    private static void dueNoInt(int a) {
        checks.dueInEveryMode(-2147483648, INVALID, "toInt", a);
    }

    private static void toIntOfOthers() {
        dueNoInt(INFINITE);
        dueNoInt(MINUS_INFINITE);
        for (int quiet : QUIET) {
            dueNoInt(quiet);
        }
        for (int loud : LOUD) {
            dueNoInt(loud);
        }
    }

    private static void toIntFlags() {
        for (int a : new int[] {bits(0x1p31), bits(-0x1p31) + 1, GREATEST, INFINITE, QUIET[0], LOUD[0]}) {
            for (int mode = 0; mode < 4; mode++) {
                RealBits x = new RealBits();
                x.round(mode);
                x.toInt(a);
                checks.due("flags after a refused toInt", x.clear(), INVALID);
                x.divide(ONE, THREE);
                x.toInt(a);
                checks.due("INEXACT that was set before stays", x.clear(), INVALID | INEXACT);
                x.toInt(a);
                x.toInt(HALF);
                checks.due("INEXACT of a later call is set", x.clear(), INVALID | INEXACT);
            }
        }
        // The exact answer -2147483648 is no refusal.
        checks.dueInEveryMode(-2147483648, 0, "toInt", bits(-0x1p31));
    }

    private static void fromInt() {
        for (int v : new int[] {0, 1, -1, 7, -7, 16777215, 16777216, -16777216, 16777218, 1 << 30,
            Integer.MIN_VALUE}) {
            checks.dueInEveryMode(bits(v), 0, "fromInt", v);
        }
        dueFromInt(16777217, 16777216, 16777216, 16777218, 16777216);
        dueFromInt(16777219, 16777220, 16777218, 16777220, 16777218);
        dueFromInt(-16777217, -16777216, -16777216, -16777216, -16777218);
        dueFromInt(-16777219, -16777220, -16777218, -16777218, -16777220);
        dueFromInt(33554431, 33554432, 33554430, 33554432, 33554430);
        dueFromInt(33554435, 33554436, 33554432, 33554436, 33554432);
        dueFromInt(2147483583, 2147483520, 2147483520, 0x1p31, 2147483520);
        dueFromInt(2147483584, 0x1p31, 2147483520, 0x1p31, 2147483520);
        dueFromInt(Integer.MAX_VALUE, 0x1p31, 2147483520, 0x1p31, 2147483520);
        dueFromInt(Integer.MIN_VALUE + 1, -0x1p31, -2147483520, -2147483520, -0x1p31);
    }

    private static void dueFromInt(int v, double nearest, double towardsZero, double up, double down) {
        checks.dueByMode(byMode(bits(nearest), bits(towardsZero), bits(up), bits(down)), INEXACT, "fromInt", v);
    }

    // ---- promises 16 to 18 ----

    private static void compared() {
        int[] rising = {MINUS_INFINITE, GREATEST | SIGN, TWO | SIGN, MINUS_ONE, LEAST_ORDINARY | SIGN,
            GREATEST_SMALL | SIGN, LEAST | SIGN, ZERO, LEAST, GREATEST_SMALL, LEAST_ORDINARY, HALF, ONE, TWO,
            GREATEST, INFINITE};
        for (int i = 0; i < rising.length; i++) {
            for (int j = 0; j < rising.length; j++) {
                checks.dueInEveryMode(Integer.compare(i, j), 0, "compare", rising[i], rising[j]);
            }
            checks.dueInEveryMode(Integer.signum(rising[i]), 0, "compare", rising[i], MINUS_ZERO);
            checks.dueInEveryMode(-Integer.signum(rising[i]), 0, "compare", MINUS_ZERO, rising[i]);
        }
        checks.dueInEveryMode(0, 0, "compare", MINUS_ZERO, MINUS_ZERO);
    }

    private static void comparedNoNumber() {
        int[] numbers = {ZERO, MINUS_ZERO, LEAST, ONE, MINUS_ONE, GREATEST, INFINITE, MINUS_INFINITE};
        for (int quiet : QUIET) {
            for (int a : numbers) {
                checks.dueInEveryMode(2, 0, "compare", quiet, a);
                checks.dueInEveryMode(2, 0, "compare", a, quiet);
            }
            checks.dueInEveryMode(2, 0, "compare", quiet, quiet);
            checks.dueInEveryMode(2, 0, "compare", quiet, QUIET[0]);
        }
    }

    private static void comparedLoud() {
        for (int loud : LOUD) {
            for (int a : new int[] {ZERO, MINUS_ONE, INFINITE, MINUS_INFINITE, QUIET[0], QUIET[3], loud, LOUD[1]}) {
                checks.dueInEveryMode(2, INVALID, "compare", loud, a);
                checks.dueInEveryMode(2, INVALID, "compare", a, loud);
            }
        }
        checks.dueInEveryMode(2, 0, "compare", QUIET[0], QUIET[3]);
    }

    private static void next() {
        dueNext(ONE, ONE + 1);
        dueNext(MINUS_ONE, MINUS_ONE - 1);
        dueNext(TWO - 1, TWO);
        dueNext(TWO | SIGN, TWO - 1 | SIGN);
        dueNext(ZERO, LEAST);
        dueNext(MINUS_ZERO, LEAST);
        dueNext(LEAST, 2);
        dueNext(2 | SIGN, LEAST | SIGN);
        dueNext(GREATEST_SMALL, LEAST_ORDINARY);
        dueNext(LEAST_ORDINARY | SIGN, GREATEST_SMALL | SIGN);
        dueNext(GREATEST - 1, GREATEST);
        dueNext(GREATEST, INFINITE);
        dueNext(GREATEST | SIGN, GREATEST - 1 | SIGN);
        dueNext(MINUS_INFINITE, GREATEST | SIGN);
    }

    private static void dueNext(int a, int want) {
        checks.dueInEveryMode(want, 0, "next", a);
    }

    private static void nextIsZero() {
        dueNext(LEAST | SIGN, MINUS_ZERO);
    }

    private static void nextOfInfinite() {
        dueNext(INFINITE, INFINITE);
    }

    private static void nextOfNoNumber() {
        for (int quiet : QUIET) {
            checks.dueInEveryMode(NO_NUMBER, 0, "next", quiet);
        }
        for (int loud : LOUD) {
            checks.dueInEveryMode(NO_NUMBER, INVALID, "next", loud);
        }
    }

    // Arithmetic would tell of OVERFLOW, UNDERFLOW or INEXACT at these.
    private static void nextFlags() {
        dueNext(GREATEST, INFINITE);
        dueNext(INFINITE, INFINITE);
        dueNext(MINUS_INFINITE, GREATEST | SIGN);
        dueNext(LEAST | SIGN, MINUS_ZERO);
        dueNext(ZERO, LEAST);
        dueNext(LEAST, 2);
        dueNext(ONE, ONE + 1);
    }

    private static void dueKinds(int want, int... sizes) {
        for (int size : sizes) {
            checks.dueInEveryMode(want, 0, "kind", size);
            checks.dueInEveryMode(want + 8, 0, "kind", size | SIGN);
        }
    }

    // Telling that a pattern is loud is no operation on it: INVALID is not set.
    private static void kindLoud() {
        dueKinds(0, 0x7F800001, 0x7F800002, 0x7FA00000, 0x7FBFFFFF);
    }

    private static void kindQuiet() {
        dueKinds(1, 0x7FC00000, 0x7FC00001, 0x7FE00000, 0x7FFFFFFF);
    }

    private static void kindNegative() {
        int[] ofEachKind = {0x7F800001, 0x7FC00000, INFINITE, ZERO, LEAST, ONE};
        for (int kind = 0; kind < ofEachKind.length; kind++) {
            dueKinds(kind, ofEachKind[kind]);
        }
    }
}
