/** The sentences of 'What it is' and 'Terms': each has a test of its own, under its own words. */
public final class TermsTest extends Sentences {
    public static void main(String[] args) {
        checks.sentence("An object is used for at most 512 calls after it has been made",
            TermsTest::allCallsOfAnObject);
        patterns();
        modeAndFlags();
        rounding();
        overflow();
        underflow();
        operations();
        checks.end("TermsTest");
    }

    private static void patterns() {
        checks.sentence("bit 31 is its SIGN (1 negative)", TermsTest::signs);
        checks.sentence("bits 30 to 23 are its EXPONENT e, 0 .. 255, bits 22 to 0 its FRACTION f", TermsTest::fields);
        checks.sentence("With e = 255 and f above 0 it is NO NUMBER", TermsTest::noNumbers);
        checks.sentence("LOUD if f is below 2^22", TermsTest::loudOnes);
        checks.sentence("with e = 255 and f = 0 it is INFINITE", TermsTest::infiniteOnes);
        checks.sentence("All others are FINITE", TermsTest::finiteOnes);
        checks.sentence("with e = 0 the value is f * 2^-149", TermsTest::smallValues);
        checks.sentence("(so for f = 0 a ZERO)", TermsTest::zeros);
        checks.sentence("else (2^23 + f) * 2^(e - 150)", TermsTest::ordinaryValues);
        checks.sentence("negative with the sign 1", TermsTest::negativeValues);
        checks.sentence("the two zeros have the same value", TermsTest::zerosAreEqual);
    }

    private static void modeAndFlags() {
        checks.sentence("THE MODE is 0 to the NEAREST, 1 towards 0, 2 UP, 3 DOWN", TermsTest::modes);
        checks.sentence("0 at first", TermsTest::firstMode);
        checks.sentence("FLAGS are 1 INEXACT, 2 UNDERFLOW, 4 OVERFLOW, 8 DIVIDED BY ZERO, 16 INVALID",
            TermsTest::eachFlag);
        checks.sentence("none is set at first", TermsTest::firstFlags);
        checks.sentence("An operation sets flags; they stay set till cleared.", TermsTest::flagsStay);
    }

    private static void rounding() {
        checks.sentence("u is the greatest number for which |v| is at least 2^(u + 23)",
            TermsTest::unitAtPowersOfTwo);
        checks.sentence("but not less than -149", TermsTest::unitIsHeld);
        checks.sentence("If v is such a multiple, it stays.", TermsTest::multiplesStay);
        checks.sentence("the nearer neighbour", TermsTest::nearer);
        checks.sentence("(if both are as near, the one that is an even multiple)", TermsTest::ties);
        checks.sentence("or the one that is nearer to 0", TermsTest::nearerToZero);
        checks.sentence("or the greater one", TermsTest::greater);
        checks.sentence("or the lesser one", TermsTest::lesser);
        checks.sentence("and INEXACT is set", TermsTest::inexact);
    }

    private static void overflow() {
        checks.sentence("If the result's absolute value is 2^128 or more", TermsTest::overflowBegins);
        checks.sentence("OVERFLOW and INEXACT are set", TermsTest::overflowOfExactOnes);
        checks.sentence("it becomes infinite with the sign of v", TermsTest::overflowToInfinite);
        checks.sentence("but the greatest finite pattern of that sign in mode 1", TermsTest::overflowTowardsZero);
        checks.sentence("in mode 2 if v is negative", TermsTest::overflowUp);
        checks.sentence("and in mode 3 if it is positive", TermsTest::overflowDown);
    }

    private static void underflow() {
        checks.sentence("A result 0 gets the sign of v.", TermsTest::roundedToZero);
        checks.sentence("UNDERFLOW is set if v is no multiple of 2^-149", TermsTest::underflow149);
        checks.sentence("and, rounded in the same way but with u not held at -149, is less than 2^-126 in absolute value.",
            TermsTest::underflow126);
        checks.sentence("(So not for a v that is exact.)", TermsTest::noUnderflowOfExactOnes);
    }

    private static void operations() {
        checks.sentence("with infinite ones it is as limits go, exactly", TermsTest::limits);
        checks.sentence("and if a limit does not go, it is INVALID", TermsTest::noLimits);
        checks.sentence("of a sum or difference (also of fused()) whose parts are zeros of one sign",
            TermsTest::zerosOfOneSign);
        checks.sentence("(in a difference, that of the second turned over)", TermsTest::zerosOfDifferences);
        checks.sentence("other ones are the positive zero, but the negative one in mode 3", TermsTest::otherZeros);
        checks.sentence("Of products and quotients (and infinite ones of these) the sign is that of both signs: "
            + "negative if they differ.", TermsTest::signsOfProducts);
        checks.sentence("if an operand is no number, or it is INVALID, the result is the pattern 2143289344 (0x7FC00000)",
            TermsTest::noNumberInEachPlace);
        checks.sentence("INVALID is set for the second, and for the first if one of them is loud",
            TermsTest::loudInEachPlace);
    }

    private static void allCallsOfAnObject() {
        RealBits x = new RealBits();
        int[] thirds = byMode(0x3EAAAAAB, 0x3EAAAAAA, 0x3EAAAAAB, 0x3EAAAAAA);
        for (int call = 0; call < 508; call += 4) {
            int mode = call / 4 % 4;
            checks.due("round, call " + (call + 1), x.round(mode), true);
            checks.due("1 / 3, call " + (call + 2), x.divide(ONE, THREE), thirds[mode]);
            checks.due("clear, call " + (call + 3), x.clear(), INEXACT);
            checks.due("flags, call " + (call + 4), x.flags(), 0);
        }
        checks.due("call 509", x.round(3), true);
        checks.due("call 510", x.divide(MINUS_ONE, THREE), 0xBEAAAAAB);
        checks.due("call 511", x.mode(), 3);
        checks.due("call 512", x.clear(), INEXACT);
    }

    // ---- patterns ----

    private static void signs() {
        for (int a : new int[] {ZERO, LEAST, GREATEST_SMALL, LEAST_ORDINARY, ONE, GREATEST, INFINITE, 0x7F800001,
            0x7FFFFFFF}) {
            RealBits x = new RealBits();
            checks.due("kind with the sign 0: below 8", x.kind(a) < 8, true);
            checks.due("kind with the sign 1", x.kind(a | SIGN), x.kind(a) + 8);
        }
        for (int a : FINITES) {
            checks.dueInEveryMode(1, 0, "compare", a, ZERO);
            checks.dueInEveryMode(-1, 0, "compare", a | SIGN, ZERO);
        }
        checks.dueInEveryMode(1, 0, "compare", INFINITE, MINUS_INFINITE);
    }

    private static void fields() {
        int[][] exponentFractionKind = {
            {0, 0, 3}, {0, 1, 4}, {0, 0x7FFFFF, 4}, {1, 0, 5}, {1, 0x7FFFFF, 5}, {127, 0, 5}, {128, 0x7FFFFF, 5},
            {254, 0, 5}, {254, 0x7FFFFF, 5}, {255, 0, 2}, {255, 1, 0}, {255, 0x7FFFFF, 1},
        };
        for (int[] row : exponentFractionKind) {
            checks.dueInEveryMode(row[2], 0, "kind", row[0] << 23 | row[1]);
            checks.dueInEveryMode(row[2] + 8, 0, "kind", SIGN | row[0] << 23 | row[1]);
        }
    }

    private static void noNumbers() {
        for (int sign : SIGNS) {
            for (int fraction : new int[] {1, 0x3FFFFF, 0x400000, 0x400001, 0x7FFFFF}) {
                int none = sign | INFINITE | fraction;
                checks.dueInEveryMode((fraction < 0x400000 ? 0 : 1) + (sign == 0 ? 0 : 8), 0, "kind", none);
                checks.dueInEveryMode(2, fraction < 0x400000 ? INVALID : 0, "compare", none, none);
            }
            // f = 0 is none of them, nor is the greatest f with e = 254.
            for (int number : new int[] {INFINITE, GREATEST}) {
                checks.dueInEveryMode(0, 0, "compare", sign | number, sign | number);
                checks.dueInEveryMode(sign | number, 0, "whole", sign | number);
            }
        }
    }

    private static void loudOnes() {
        for (int sign : SIGNS) {
            for (int fraction : new int[] {1, 2, 0x200000, 0x3FFFFF}) {
                checks.dueInEveryMode(NO_NUMBER, INVALID, "whole", sign | INFINITE | fraction);
                checks.dueInEveryMode(sign == 0 ? 0 : 8, 0, "kind", sign | INFINITE | fraction);
            }
            for (int fraction : new int[] {0x400000, 0x400001, 0x600000, 0x7FFFFF}) {
                checks.dueInEveryMode(NO_NUMBER, 0, "whole", sign | INFINITE | fraction);
                checks.dueInEveryMode(sign == 0 ? 1 : 9, 0, "kind", sign | INFINITE | fraction);
            }
        }
        // A fraction below 2^22 alone makes nothing loud.
        for (int a : new int[] {ZERO, LEAST, ONE, INFINITE}) {
            checks.dueInEveryMode(0, 0, "compare", a, a);
        }
    }

    private static void infiniteOnes() {
        for (int sign : SIGNS) {
            checks.dueInEveryMode(sign == 0 ? 2 : 10, 0, "kind", sign | INFINITE);
            checks.dueInEveryMode(sign == 0 ? 5 : 13, 0, "kind", sign | GREATEST);
            checks.dueInEveryMode(sign == 0 ? 1 : -1, 0, "compare", sign | INFINITE, sign | GREATEST);
            checks.dueInEveryMode(sign | INFINITE, 0, "add", sign | INFINITE, sign ^ SIGN | GREATEST);
        }
    }

    private static void finiteOnes() {
        for (int exponent = 0; exponent < 255; exponent++) {
            for (int fraction : new int[] {0, 1, 0x3FFFFF, 0x400000, 0x7FFFFF}) {
                int a = exponent << 23 | fraction;
                checks.dueInEveryMode(-1, 0, "compare", a, INFINITE);
                checks.dueInEveryMode(1, 0, "compare", a | SIGN, MINUS_INFINITE);
                checks.dueByMode(ZERO_OF_MODE, 0, "subtract", a, a);
                checks.dueInEveryMode(ZERO, 0, "divide", a, INFINITE);
            }
        }
    }

    private static void smallValues() {
        for (int fraction : new int[] {1, 2, 3, 0x3FFFFF, 0x400000, 0x400001, 0x7FFFFE, 0x7FFFFF}) {
            checks.dueInEveryMode(bits(fraction), 0, "scale", fraction, 149);
            checks.dueInEveryMode(fraction, 0, "scale", bits(fraction), -149);
            checks.dueInEveryMode(bits(fraction), 0, "divide", fraction, LEAST);
        }
    }

    private static void zeros() {
        for (int zero : ZEROS) {
            checks.dueInEveryMode(zero == 0 ? 3 : 11, 0, "kind", zero);
            checks.dueInEveryMode(0, 0, "toInt", zero);
            checks.dueInEveryMode(-1, 0, "compare", zero, LEAST);
            checks.dueInEveryMode(1, 0, "compare", zero, LEAST | SIGN);
        }
        checks.dueInEveryMode(4, 0, "kind", LEAST);
        // e above 0 with f = 0 is no zero.
        checks.dueInEveryMode(5, 0, "kind", LEAST_ORDINARY);
        checks.dueInEveryMode(-1, 0, "compare", ZERO, LEAST_ORDINARY);
    }

    private static void ordinaryValues() {
        for (int exponent = 1; exponent < 255; exponent++) {
            for (int fraction : new int[] {0, 1, 0x7FFFFF}) {
                int a = exponent << 23 | fraction;
                checks.dueInEveryMode(bits(0x800000 + fraction), 0, "scale", a, 150 - exponent);
                checks.dueInEveryMode(a, 0, "scale", bits(0x800000 + fraction), exponent - 150);
            }
        }
        checks.dueInEveryMode(0x800000, 0, "toInt", 150 << 23);
        checks.dueInEveryMode(0xFFFFFF, 0, "toInt", 150 << 23 | 0x7FFFFF);
        // The least of these is one step above the greatest with e = 0.
        checks.dueInEveryMode(LEAST, 0, "subtract", LEAST_ORDINARY, GREATEST_SMALL);
        checks.dueInEveryMode(bits(0x1p-149 * 0x800000), 0, "add", GREATEST_SMALL, LEAST);
    }

    private static void negativeValues() {
        for (int a : FINITES) {
            checks.dueByMode(ZERO_OF_MODE, 0, "add", a, a | SIGN);
            checks.dueInEveryMode(a | SIGN, 0, "subtract", ZERO, a);
            checks.dueInEveryMode(a, 0, "subtract", ZERO, a | SIGN);
        }
        checks.dueInEveryMode(-0x800000, 0, "toInt", SIGN | 150 << 23);
        checks.dueInEveryMode(-1, 0, "toInt", MINUS_ONE);
    }

    private static void zerosAreEqual() {
        for (int zero : ZEROS) {
            checks.dueInEveryMode(0, 0, "compare", zero, ZERO);
            checks.dueInEveryMode(0, 0, "compare", zero, MINUS_ZERO);
            checks.dueInEveryMode(LEAST, 0, "next", zero);
            for (int a : FINITES) {
                checks.dueInEveryMode(a, 0, "add", a, zero);
                checks.dueInEveryMode(a | SIGN, 0, "add", zero, a | SIGN);
                checks.dueInEveryMode(a, 0, "subtract", a, zero);
                checks.dueInEveryMode(a, 0, "fused", zero, ONE, a);
            }
        }
    }

    // ---- the mode and the flags ----

    private static void modes() {
        // 1 / 3 lies nearer to its greater neighbour, 5 / 3 to its lesser one.
        checks.dueByMode(byMode(0x3EAAAAAB, 0x3EAAAAAA, 0x3EAAAAAB, 0x3EAAAAAA), INEXACT, "divide", ONE, THREE);
        checks.dueByMode(byMode(0xBEAAAAAB, 0xBEAAAAAA, 0xBEAAAAAA, 0xBEAAAAAB), INEXACT, "divide", MINUS_ONE, THREE);
        checks.dueByMode(byMode(0x3FD55555, 0x3FD55555, 0x3FD55556, 0x3FD55555), INEXACT, "divide", bits(5), THREE);
        checks.dueByMode(byMode(0xBFD55555, 0xBFD55555, 0xBFD55555, 0xBFD55556), INEXACT, "divide", bits(-5), THREE);
    }

    private static void firstMode() {
        checks.due("mode() of a new object", new RealBits().mode(), 0);
        int threeQuarters = bits(3 * 0x1p-25);
        checks.due("a new object goes up to the nearer one", new RealBits().add(ONE, threeQuarters), ONE + 1);
        checks.due("a new object goes down to the nearer one", new RealBits().add(MINUS_ONE, threeQuarters | SIGN),
            MINUS_ONE + 1);
        checks.due("a new object's sum 0", new RealBits().subtract(ONE, ONE), ZERO);
    }

    private static void eachFlag() {
        checks.dueInEveryMode(NO_NUMBER, 16, "root", MINUS_ONE);
        checks.dueInEveryMode(INFINITE, 8, "divide", ONE, ZERO);
        checks.dueByMode(TOO_GREAT, 4 + 1, "add", GREATEST, GREATEST);
        checks.dueByMode(byMode(0, 0, 1, 0), 2 + 1, "multiply", LEAST, LEAST);
        checks.dueByMode(byMode(ONE, ONE, ONE + 1, ONE), 1, "add", ONE, LEAST);
        checks.dueInEveryMode(TWO, 0, "add", ONE, ONE);
    }

    private static void firstFlags() {
        checks.due("flags() of a new object", new RealBits().flags(), 0);
        checks.due("clear() of a new object", new RealBits().clear(), 0);
        RealBits used = new RealBits();
        Checks.setEveryFlag(used, 0);
        checks.due("flags() of the used object", used.flags(), 31);
        checks.due("flags() of an object made after it", new RealBits().flags(), 0);
    }

    private static void flagsStay() {
        String[] setters = {"add", "multiply", "add", "divide", "divide"};
        int[][] operands = {{ONE, LEAST}, {LEAST, LEAST}, {GREATEST, GREATEST}, {ONE, ZERO}, {ZERO, ZERO}};
        int[] flags = {INEXACT, TINY, HUGE, BY_ZERO, INVALID};
        for (int mode = 0; mode < 4; mode++) {
            RealBits grown = new RealBits();
            grown.round(mode);
            int all = 0;
            for (int i = 0; i < setters.length; i++) {
                RealBits x = new RealBits();
                x.round(mode);
                Checks.call(x, setters[i], operands[i]);
                callsThatSetNothing(x, flags[i]);
                Checks.call(grown, setters[i], operands[i]);
                all |= flags[i];
                checks.due("flags after " + (i + 1) + " setters", grown.flags(), all);
                checks.due("cleared: " + flags[i], x.clear(), flags[i]);
                checks.due("flags after clear", x.flags(), 0);
            }
        }
    }

    private static void callsThatSetNothing(RealBits x, int flags) {
        x.add(ONE, TWO);
        x.subtract(ONE, ONE);
        x.multiply(THREE, LEAST);
        x.divide(ONE, TWO);
        x.root(FOUR);
        x.fused(TWO, TWO, ONE);
        checks.due("flags after exact operations", x.flags(), flags);
        x.scale(ONE, 3);
        x.whole(THREE);
        x.toInt(THREE);
        x.fromInt(3);
        x.compare(ONE, QUIET[0]);
        x.next(GREATEST);
        x.kind(LOUD[0]);
        checks.due("flags after other exact calls", x.flags(), flags);
        x.add(QUIET[0], ONE);
        x.round(7);
        x.round(x.mode());
        checks.due("flags after round() and a quiet operand", x.flags(), flags);
        checks.due("flags() leaves them", x.flags(), flags);
    }

    // ---- rounding ----

    private static void unitAtPowersOfTwo() {
        // Above a power of 2 the neighbours stand twice as far apart as below it.
        for (int power : new int[] {-100, -1, 0, 1, 23, 100, 127}) {
            int p = 127 + power << 23;
            int half = bits(Math.scalb(1.0, power - 24));
            int quarter = bits(Math.scalb(1.0, power - 25));
            dueOnBothSides(byMode(p, p, p + 1, p), INEXACT, "add", p, half);
            dueOnBothSides(byMode(p + 1, p, p + 1, p), INEXACT, "add", p, half + 1);
            dueOnBothSides(byMode(p, p, p + 1, p), INEXACT, "add", p, quarter);
            dueOnBothSides(byMode(p - 1, p - 1, p - 1, p - 1), 0, "subtract", p, half);
            dueOnBothSides(byMode(p, p - 1, p, p - 1), INEXACT, "subtract", p, quarter);
            dueOnBothSides(byMode(p - 1, p - 1, p, p - 1), INEXACT, "subtract", p, quarter + 1);
            dueOnBothSides(byMode(p, p - 1, p, p - 1), INEXACT, "subtract", p, quarter - 1);
        }
        // 2^25 - 1 = 18631 * 1801 and 2^24 + 1 = 257 * 65281: ties on either side of a power of 2.
        dueOnBothSides(byMode(bits(0x1p25), bits(0x1p25) - 1, bits(0x1p25), bits(0x1p25) - 1), INEXACT,
            "multiply", bits(18631), bits(1801));
        dueOnBothSides(byMode(bits(0x1p24), bits(0x1p24), bits(0x1p24) + 1, bits(0x1p24)), INEXACT,
            "multiply", bits(257), bits(65281));
        // 2^-125: the last power of 2 below which u is -149 and above which it is -148.
        int p = 2 << 23;
        checks.dueInEveryMode(p - 1, 0, "subtract", p, LEAST);
        dueOnBothSides(byMode(p, p, p + 1, p), INEXACT, "add", p, LEAST);
        dueOnBothSides(byMode(p + 2, p + 1, p + 2, p + 1), INEXACT, "add", p + 1, LEAST);
        dueOnBothSides(byMode(p, p - 1, p, p - 1), INEXACT, "fused", bits(-0x1p-75), bits(0x1p-75), p);
    }

    private static void unitIsHeld() {
        // Below 2^-126 the steps stay 2^-149, so half a step is a tie wherever it lies.
        dueOnBothSides(byMode(0, 0, 1, 0), TINY, "multiply", 1, HALF);
        dueOnBothSides(byMode(2, 1, 2, 1), TINY, "multiply", 3, HALF);
        dueOnBothSides(byMode(2, 2, 3, 2), TINY, "multiply", 5, HALF);
        dueOnBothSides(byMode(0x400000, 0x3FFFFF, 0x400000, 0x3FFFFF), TINY, "multiply", GREATEST_SMALL, HALF);
        dueOnBothSides(byMode(0x400000, 0x400000, 0x400001, 0x400000), TINY, "multiply", LEAST_ORDINARY + 1, HALF);
        dueOnBothSides(byMode(LEAST_ORDINARY, GREATEST_SMALL, LEAST_ORDINARY, GREATEST_SMALL), TINY,
            "multiply", 0x00FFFFFF, HALF);
        dueOnBothSides(byMode(1, 0, 1, 0), TINY, "multiply", 1, HALF + 1);
        dueOnBothSides(byMode(0, 0, 1, 0), TINY, "multiply", 1, HALF - 1);
        // Just above 2^-126 they are 2^-149 too.
        dueOnBothSides(byMode(LEAST_ORDINARY, LEAST_ORDINARY, LEAST_ORDINARY + 1, LEAST_ORDINARY), INEXACT,
            "multiply", 2 << 23 | 1, HALF - 1);
        dueOnBothSides(byMode(LEAST_ORDINARY + 2, LEAST_ORDINARY + 1, LEAST_ORDINARY + 2, LEAST_ORDINARY + 1),
            INEXACT,
            "fused", bits(0x1p-75), bits(0x1p-75), LEAST_ORDINARY + 1);
    }

    private static void multiplesStay() {
        checks.dueInEveryMode(bits(16777215), 0, "add", bits(16777214), ONE);
        checks.dueInEveryMode(bits(16777216), 0, "add", bits(16777215), ONE);
        checks.dueInEveryMode(bits(16777218), 0, "add", bits(16777216), TWO);
        checks.dueInEveryMode(bits(-16777215), 0, "multiply", bits(4095), bits(-4097));
        checks.dueInEveryMode(bits(4097), 0, "divide", bits(16777215), bits(4095));
        checks.dueInEveryMode(bits(4095), 0, "root", bits(4095 * 4095));
        checks.dueInEveryMode(bits(0x1p-46), 0, "fused", ONE + 1, ONE + 1, ONE + 2 | SIGN);
        checks.dueInEveryMode(LEAST_ORDINARY, 0, "add", GREATEST_SMALL, LEAST);
        checks.dueInEveryMode(GREATEST, 0, "add", GREATEST - 1, bits(0x1p104));
        checks.dueInEveryMode(LEAST, 0, "scale", LEAST_ORDINARY, -23);
        checks.dueInEveryMode(bits(-0x1p31), 0, "fromInt", Integer.MIN_VALUE);
    }

    private static void nearer() {
        dueOnBothSides(byMode(ONE + 1, ONE, ONE + 1, ONE), INEXACT, "add", ONE, bits(0x1p-24) + 1);
        dueOnBothSides(byMode(ONE, ONE, ONE + 1, ONE), INEXACT, "add", ONE, bits(0x1p-24) - 1);
        dueOnBothSides(byMode(ONE + 2, ONE + 1, ONE + 2, ONE + 1), INEXACT, "add", ONE + 1, bits(0x1p-24) + 1);
        dueOnBothSides(byMode(ONE + 1, ONE + 1, ONE + 2, ONE + 1), INEXACT, "add", ONE + 1, bits(0x1p-24) - 1);
        // A tie but for the least part that there is, on either side of it.
        dueOnBothSides(byMode(ONE + 1, ONE, ONE + 1, ONE), INEXACT, "fused", bits(0x1p-12), bits(0x1p-12) + 1, ONE);
        dueOnBothSides(byMode(ONE, ONE, ONE + 1, ONE), INEXACT, "fused", bits(0x1p-12), bits(0x1p-12) - 1, ONE);
        int odd = bits(8388609);
        dueOnBothSides(byMode(odd, odd, odd + 1, odd), INEXACT, "add", odd, HALF - 1);
        dueOnBothSides(byMode(odd + 1, odd, odd + 1, odd), INEXACT, "add", odd, HALF + 1);
        // Far apart, but no part is lost.
        dueOnBothSides(byMode(ONE, ONE - 1, ONE, ONE - 1), INEXACT, "subtract", ONE, LEAST);
        dueOnBothSides(byMode(GREATEST, GREATEST - 1, GREATEST, GREATEST - 1), INEXACT, "subtract", GREATEST, LEAST);
    }

    private static void ties() {
        dueOnBothSides(byMode(ONE, ONE, ONE + 1, ONE), INEXACT, "add", ONE, bits(0x1p-24));
        dueOnBothSides(byMode(ONE + 2, ONE + 1, ONE + 2, ONE + 1), INEXACT, "add", ONE + 1, bits(0x1p-24));
        // The odd one is the last below a power of 2: the carry goes into the exponent.
        dueOnBothSides(byMode(TWO, TWO - 1, TWO, TWO - 1), INEXACT, "add", TWO - 1, bits(0x1p-24));
        dueOnBothSides(byMode(ONE, ONE - 1, ONE, ONE - 1), INEXACT, "subtract", ONE, bits(0x1p-25));
        // (1 + 2^-12) * (1 + 3 * 2^-12) ends half a step above an odd multiple.
        dueOnBothSides(byMode(0x3F802002, 0x3F802001, 0x3F802002, 0x3F802001), INEXACT,
            "multiply", bits(1 + 0x1p-12), bits(1 + 3 * 0x1p-12));
        dueOnBothSides(byMode(2, 1, 2, 1), TINY, "divide", 3, TWO);
        dueOnBothSides(byMode(2, 2, 3, 2), TINY, "scale", 5, -1);
        dueOnBothSides(byMode(ONE, ONE, ONE + 1, ONE), INEXACT, "fused", bits(0x1p-12), bits(0x1p-12), ONE);
        dueOnBothSides(byMode(TWO, TWO, THREE, TWO), INEXACT, "whole", bits(2.5));
        dueOnBothSides(byMode(FOUR, THREE, FOUR, THREE), INEXACT, "whole", bits(3.5));
        checks.dueByMode(byMode(bits(16777216), bits(16777216), bits(16777218), bits(16777216)), INEXACT, "fromInt",
            16777217);
        checks.dueByMode(byMode(bits(16777220), bits(16777218), bits(16777220), bits(16777218)), INEXACT, "fromInt",
            16777219);
    }

    /** Results between ONE and ONE + 1, and between their negatives, near either end. */
    private static void dueBetween(int mode, int ofPositive, int ofNegative) {
        for (int part : new int[] {LEAST, bits(0x1p-24) - 1, bits(0x1p-24), bits(0x1p-24) + 1, bits(0x1p-23) - 1}) {
            dueInMode(mode, ofPositive, "add", ONE, part);
            dueInMode(mode, ofNegative, "subtract", MINUS_ONE, part);
            dueInMode(mode, ofPositive, "fused", ONE, part, ONE);
            dueInMode(mode, ofNegative, "fused", part, MINUS_ONE, MINUS_ONE);
        }
    }

    private static void dueInMode(int mode, int want, String name, int... operands) {
        checks.dueCall(mode, want, INEXACT, name, operands);
        checks.dueCallAfterOthers(mode, want, INEXACT, name, operands);
    }

    private static void nearerToZero() {
        dueBetween(1, ONE, MINUS_ONE);
        dueInMode(1, 0x5F7FFFFF, "root", GREATEST);
        dueInMode(1, bits(2147483520), "fromInt", Integer.MAX_VALUE);
        dueInMode(1, bits(-2147483520), "fromInt", -Integer.MAX_VALUE);
        dueInMode(1, MINUS_ZERO, "whole", MINUS_ONE - 1);
        dueInMode(1, ZERO, "whole", ONE - 1);
    }

    private static void greater() {
        dueBetween(2, ONE + 1, MINUS_ONE);
        dueInMode(2, 0x5F800000, "root", GREATEST);
        dueInMode(2, bits(0x1p31), "fromInt", Integer.MAX_VALUE);
        dueInMode(2, bits(-2147483520), "fromInt", -Integer.MAX_VALUE);
        dueInMode(2, MINUS_ZERO, "whole", MINUS_ONE - 1);
        dueInMode(2, ONE, "whole", LEAST);
    }

    private static void lesser() {
        dueBetween(3, ONE, MINUS_ONE + 1);
        dueInMode(3, 0x5F7FFFFF, "root", GREATEST);
        dueInMode(3, bits(2147483520), "fromInt", Integer.MAX_VALUE);
        dueInMode(3, bits(-0x1p31), "fromInt", -Integer.MAX_VALUE);
        dueInMode(3, MINUS_ONE, "whole", LEAST | SIGN);
        dueInMode(3, ZERO, "whole", ONE - 1);
    }

    private static void inexact() {
        // The least part beside the result, and beside it the same call without that part.
        dueOnBothSides(byMode(GREATEST - 1, GREATEST - 1, GREATEST, GREATEST - 1), INEXACT, "add", GREATEST - 1,
            LEAST);
        dueOnBothSides(byMode(GREATEST - 1, GREATEST - 1, GREATEST - 1, GREATEST - 1), 0, "add", GREATEST - 1, ZERO);
        dueOnBothSides(byMode(ONE + 2, ONE + 2, ONE + 3, ONE + 2), INEXACT, "multiply", ONE + 1, ONE + 1);
        dueOnBothSides(byMode(ONE + 1, ONE + 1, ONE + 1, ONE + 1), 0, "multiply", ONE + 1, ONE);
        dueOnBothSides(byMode(ONE - 2, ONE - 2, ONE - 1, ONE - 2), INEXACT, "divide", ONE, ONE + 1);
        dueOnBothSides(byMode(ONE, ONE, ONE, ONE), 0, "divide", ONE + 1, ONE + 1);
        checks.dueByMode(byMode(ONE, ONE, ONE + 1, ONE), INEXACT, "root", ONE + 1);
        checks.dueInEveryMode(ONE, 0, "root", ONE);
        dueOnBothSides(byMode(1, 1, 2, 1), TINY, "fused", LEAST, LEAST, LEAST);
        dueOnBothSides(byMode(1, 1, 1, 1), 0, "fused", LEAST, ZERO, LEAST);
        dueOnBothSides(byMode(1, 0, 1, 0), TINY, "scale", 3, -2);
        dueOnBothSides(byMode(1, 1, 1, 1), 0, "scale", 4, -2);
        checks.dueByMode(byMode(0, 0, 1, 0), INEXACT, "toInt", LEAST);
        checks.dueInEveryMode(1, 0, "toInt", ONE);
    }

    // ---- results that are too great ----

    private static final int LAST_STEP = 0x73000000; // 2^103, half of the step at the greatest

    private static void overflowBegins() {
        int[] upOnly = {INEXACT, INEXACT, HUGE, INEXACT};
        // Below half a step the rounded result is 2^128 in mode 2 alone.
        dueOnBothSides(byMode(GREATEST, GREATEST, INFINITE, GREATEST), upOnly, "add", GREATEST, LEAST);
        dueOnBothSides(byMode(GREATEST, GREATEST, INFINITE, GREATEST), upOnly, "add", GREATEST, LAST_STEP - 1);
        // Half a step: the even neighbour is 2^128. It is the rounded result that counts, so not in 1 and 3.
        int[] nearestAndUp = {HUGE, INEXACT, HUGE, INEXACT};
        dueOnBothSides(TOO_GREAT, nearestAndUp, "add", GREATEST, LAST_STEP);
        dueOnBothSides(TOO_GREAT, nearestAndUp, "add", GREATEST, LAST_STEP + 1);
        dueOnBothSides(TOO_GREAT, nearestAndUp, "add", GREATEST, 0x737FFFFF);
        dueOnBothSides(TOO_GREAT, nearestAndUp, "subtract", GREATEST, LAST_STEP | SIGN);
        dueOnBothSides(TOO_GREAT, nearestAndUp, "fused", GREATEST, ONE, LAST_STEP);
        // (2^25 - 1) * 2^103, as 18631 * 1801, and (2^26 - 3) * 2^102 as a sum.
        dueOnBothSides(TOO_GREAT, nearestAndUp, "multiply", bits(18631 * 0x1p50), bits(1801 * 0x1p53));
        dueOnBothSides(byMode(GREATEST, GREATEST, INFINITE, GREATEST), upOnly, "fused", GREATEST, ONE, bits(0x1p102));
        // 2^128 itself is too great in each mode; one step less is the greatest, and exact.
        dueOnBothSides(TOO_GREAT, HUGE, "add", GREATEST, bits(0x1p104));
        dueOnBothSides(byMode(GREATEST, GREATEST, GREATEST, GREATEST), 0, "add", GREATEST - 1, bits(0x1p104));
        dueOnBothSides(TOO_GREAT, HUGE, "scale", ONE, 128);
        dueOnBothSides(byMode(0x7F000000, 0x7F000000, 0x7F000000, 0x7F000000), 0, "scale", ONE, 127);
    }

    private static void overflowOfExactOnes() {
        // Each of these results is a multiple that would stay, were there patterns for it.
        dueOnBothSides(TOO_GREAT, HUGE, "add", bits(0x1p127), bits(0x1p127));
        dueOnBothSides(TOO_GREAT, HUGE, "add", GREATEST, GREATEST);
        dueOnBothSides(TOO_GREAT, HUGE, "subtract", GREATEST, GREATEST | SIGN);
        dueOnBothSides(TOO_GREAT, HUGE, "multiply", GREATEST, TWO);
        dueOnBothSides(TOO_GREAT, HUGE, "multiply", bits(0x1p64), bits(0x1p64));
        dueOnBothSides(TOO_GREAT, HUGE, "divide", GREATEST, HALF);
        dueOnBothSides(TOO_GREAT, HUGE, "divide", bits(0x1p127), LEAST);
        dueOnBothSides(TOO_GREAT, HUGE, "fused", bits(0x1p64), bits(0x1p64), ZERO);
        dueOnBothSides(TOO_GREAT, HUGE, "fused", bits(0x1p102), FOUR, GREATEST);
        dueOnBothSides(TOO_GREAT, HUGE, "scale", LEAST, 277);
        dueOnBothSides(TOO_GREAT, HUGE, "scale", GREATEST, 1);
        // A product that is too great is none if the sum is not.
        checks.dueInEveryMode(GREATEST, 0, "fused", GREATEST, TWO, GREATEST | SIGN);
    }

    private static void dueTooGreat(int mode, int ofPositive, int ofNegative) {
        int[][] tooGreat = {{GREATEST, GREATEST}, {bits(0x1p127), bits(0x1p127)}, {GREATEST, bits(0x1p104)}};
        for (int[] parts : tooGreat) {
            dueHuge(mode, ofPositive, "add", parts[0], parts[1]);
            dueHuge(mode, ofNegative, "add", parts[0] | SIGN, parts[1] | SIGN);
            dueHuge(mode, ofPositive, "subtract", parts[0], parts[1] | SIGN);
            dueHuge(mode, ofNegative, "subtract", parts[0] | SIGN, parts[1]);
            dueHuge(mode, ofPositive, "multiply", parts[0] | SIGN, parts[1] | SIGN);
            dueHuge(mode, ofNegative, "multiply", parts[0], parts[1] | SIGN);
            dueHuge(mode, ofPositive, "divide", parts[0], HALF - 1);
            dueHuge(mode, ofNegative, "divide", parts[0] | SIGN, LEAST);
            // The sign of v is that of the product, not that of c.
            dueHuge(mode, ofPositive, "fused", parts[0], parts[1], GREATEST | SIGN);
            dueHuge(mode, ofNegative, "fused", parts[0], parts[1] | SIGN, GREATEST);
            dueHuge(mode, ofPositive, "scale", parts[1], 400);
            dueHuge(mode, ofNegative, "scale", parts[0] | SIGN, 1);
        }
    }

    private static void dueHuge(int mode, int want, String name, int... operands) {
        checks.dueCall(mode, want, HUGE, name, operands);
        checks.dueCallAfterOthers(mode, want, HUGE, name, operands);
    }

    private static void overflowToInfinite() {
        dueTooGreat(0, INFINITE, MINUS_INFINITE);
        dueHuge(2, INFINITE, "add", GREATEST, GREATEST);
        dueHuge(3, MINUS_INFINITE, "add", GREATEST | SIGN, GREATEST | SIGN);
    }

    private static void overflowTowardsZero() {
        dueTooGreat(1, GREATEST, GREATEST | SIGN);
    }

    private static void overflowUp() {
        dueTooGreat(2, INFINITE, GREATEST | SIGN);
    }

    private static void overflowDown() {
        dueTooGreat(3, GREATEST, MINUS_INFINITE);
    }

    // ---- results that are small ----

    private static void roundedToZero() {
        dueOnBothSides(byMode(0, 0, 1, 0), TINY, "multiply", LEAST, LEAST);
        dueOnBothSides(byMode(0, 0, 1, 0), TINY, "multiply", LEAST | SIGN, HALF | SIGN);
        dueOnBothSides(byMode(0, 0, 1, 0), TINY, "divide", LEAST, GREATEST);
        dueOnBothSides(byMode(0, 0, 1, 0), TINY, "divide", LEAST | SIGN, TWO | SIGN);
        dueOnBothSides(byMode(0, 0, 1, 0), TINY, "scale", ONE, -150);
        dueOnBothSides(byMode(0, 0, 1, 0), TINY, "scale", GREATEST, -400);
        // c is a zero of the other sign: the sign is that of v, not that of c or of the mode.
        dueOnBothSides(byMode(0, 0, 1, 0), TINY, "fused", LEAST, LEAST, MINUS_ZERO);
        dueOnBothSides(byMode(0, 0, 1, 0), TINY, "fused", LEAST | SIGN, HALF | SIGN, ZERO);
        // v = 2^-149 - 2^-149 * (1 - 2^-24): positive, though c is negative.
        dueOnBothSides(byMode(0, 0, 1, 0), TINY, "fused", bits(1 - 0x1p-24), LEAST | SIGN, LEAST);
        dueOnBothSides(byMode(0, 0, 1, 0), TINY, "fused", ONE + 1, LEAST, LEAST | SIGN);
    }

    private static void underflow149() {
        // Multiples of 2^-149, each beside one that is none.
        dueOnBothSides(byMode(3, 3, 3, 3), 0, "multiply", 6, HALF);
        dueOnBothSides(byMode(4, 3, 4, 3), TINY, "multiply", 7, HALF);
        dueOnBothSides(byMode(0x400000, 0x400000, 0x400000, 0x400000), 0, "multiply", LEAST_ORDINARY, HALF);
        dueOnBothSides(byMode(0x400000, 0x400000, 0x400001, 0x400000), TINY, "multiply", LEAST_ORDINARY, HALF + 1);
        dueOnBothSides(byMode(1, 1, 1, 1), 0, "divide", 2, TWO);
        dueOnBothSides(byMode(1, 0, 1, 0), TINY, "divide", 2, THREE);
        dueOnBothSides(byMode(1, 1, 1, 1), 0, "scale", ONE, -149);
        dueOnBothSides(byMode(1, 1, 2, 1), TINY, "scale", ONE + 1, -149);
        dueOnBothSides(byMode(2, 2, 2, 2), 0, "fused", LEAST, ONE, LEAST);
        dueOnBothSides(byMode(2, 2, 3, 2), TINY, "fused", LEAST, ONE + 1, LEAST);
        // Half, a quarter and far less of the least one.
        dueOnBothSides(byMode(0, 0, 1, 0), TINY, "scale", LEAST, -1);
        dueOnBothSides(byMode(0, 0, 1, 0), TINY, "scale", LEAST, -2);
        dueOnBothSides(byMode(0, 0, 1, 0), TINY, "scale", LEAST, -400);
    }

    private static void underflow126() {
        int[] belowPower = byMode(LEAST_ORDINARY, GREATEST_SMALL, LEAST_ORDINARY, GREATEST_SMALL);
        // 2^-126 - 2^-150 stays with u = -150, so it is below in each mode, though the result may be 2^-126.
        dueOnBothSides(belowPower, TINY, "multiply", LEAST_ORDINARY, bits(1 - 0x1p-24));
        dueOnBothSides(belowPower, TINY, "divide", TWO - 1, bits(0x1p127));
        dueOnBothSides(belowPower, TINY, "scale", TWO - 1, -127);
        dueOnBothSides(belowPower, TINY, "fused", bits(-0x1p-75), bits(0x1p-75), LEAST_ORDINARY);
        // 2^-126 - 2^-151, as 18631 * 1801 * 2^-151: a tie with u = -150, and 2^-126 is the even one.
        int[] notNearestNorUp = {INEXACT, TINY, INEXACT, TINY};
        dueOnBothSides(belowPower, notNearestNorUp, "multiply", bits(18631 * 0x1p-75), bits(1801 * 0x1p-76));
        dueOnBothSides(belowPower, notNearestNorUp, "fused", bits(-0x1p-75), bits(0x1p-76), LEAST_ORDINARY);
        // 2^-126 - 2^-152, as 8191 * 8193 * 2^-152, and all that is nearer to 2^-126.
        dueOnBothSides(belowPower, notNearestNorUp, "multiply", bits(8191 * 0x1p-76), bits(8193 * 0x1p-76));
        dueOnBothSides(belowPower, notNearestNorUp, "fused", LEAST, LEAST | SIGN, LEAST_ORDINARY);
        // 2^-126 - 3 * 2^-152 is nearer to 2^-126 - 2^-150 than to 2^-126 with u = -150.
        int[] notUp = {TINY, TINY, INEXACT, TINY};
        dueOnBothSides(belowPower, notUp, "fused", bits(-3 * 0x1p-76), bits(0x1p-76), LEAST_ORDINARY);
        // 2^-126 - 3 * 2^-151: with u = -150 the greater neighbour is 2^-126 - 2^-150.
        dueOnBothSides(byMode(GREATEST_SMALL, GREATEST_SMALL, LEAST_ORDINARY, GREATEST_SMALL), TINY,
            "fused", bits(-3 * 0x1p-76), bits(0x1p-75), LEAST_ORDINARY);
        // At 2^-126 and above it nothing is.
        dueOnBothSides(byMode(LEAST_ORDINARY, LEAST_ORDINARY, LEAST_ORDINARY, LEAST_ORDINARY), 0, "scale", ONE, -126);
        dueOnBothSides(byMode(LEAST_ORDINARY, LEAST_ORDINARY, LEAST_ORDINARY + 1, LEAST_ORDINARY), INEXACT,
            "fused", LEAST, LEAST, LEAST_ORDINARY);
        dueOnBothSides(byMode(LEAST_ORDINARY + 2, LEAST_ORDINARY + 2, LEAST_ORDINARY + 3, LEAST_ORDINARY + 2),
            INEXACT,
            "multiply", bits(0x1p-63) + 1, bits(0x1p-63) + 1);
    }

    private static void noUnderflowOfExactOnes() {
        dueOnBothSides(byMode(GREATEST_SMALL, GREATEST_SMALL, GREATEST_SMALL, GREATEST_SMALL), 0,
            "subtract", LEAST_ORDINARY, LEAST);
        dueOnBothSides(byMode(2, 2, 2, 2), 0, "add", LEAST, LEAST);
        dueOnBothSides(byMode(LEAST, LEAST, LEAST, LEAST), 0, "subtract", 0x00800001, LEAST_ORDINARY);
        dueOnBothSides(byMode(LEAST, LEAST, LEAST, LEAST), 0, "multiply", bits(0x1p-75), bits(0x1p-74));
        dueOnBothSides(byMode(GREATEST_SMALL, GREATEST_SMALL, GREATEST_SMALL, GREATEST_SMALL), 0,
            "multiply", GREATEST_SMALL, ONE);
        dueOnBothSides(byMode(LEAST, LEAST, LEAST, LEAST), 0, "divide", LEAST_ORDINARY, bits(0x1p23));
        dueOnBothSides(byMode(LEAST, LEAST, LEAST, LEAST), 0, "scale", ONE, -149);
        dueOnBothSides(byMode(3, 3, 3, 3), 0, "scale", THREE, -149);
        dueOnBothSides(byMode(LEAST, LEAST, LEAST, LEAST), 0, "fused", bits(0x1p-75), bits(0x1p-74), ZERO);
    }

    // ---- infinite ones, zeros, signs and no numbers ----

    private static void limits() {
        for (int a : FINITES) {
            for (int sign : SIGNS) {
                int infinite = INFINITE | sign;
                checks.dueInEveryMode(infinite, 0, "add", infinite, a | SIGN);
                checks.dueInEveryMode(infinite, 0, "add", a, infinite);
                checks.dueInEveryMode(infinite, 0, "subtract", infinite, a);
                checks.dueInEveryMode(infinite ^ SIGN, 0, "subtract", a, infinite);
                checks.dueInEveryMode(infinite, 0, "multiply", infinite, a);
                checks.dueInEveryMode(infinite, 0, "multiply", a, infinite);
                checks.dueInEveryMode(infinite, 0, "divide", infinite, a);
                checks.dueInEveryMode(sign, 0, "divide", a, infinite);
                checks.dueInEveryMode(infinite, 0, "fused", a, infinite, a | SIGN);
                // A finite product, however great, does not stand against an infinite c.
                checks.dueInEveryMode(infinite, 0, "fused", a, GREATEST, infinite);
            }
        }
        for (int infinite : INFINITES) {
            checks.dueInEveryMode(infinite, 0, "add", infinite, infinite);
            checks.dueInEveryMode(infinite, 0, "subtract", infinite, infinite ^ SIGN);
            checks.dueInEveryMode(infinite, 0, "multiply", infinite, INFINITE);
            checks.dueInEveryMode(infinite, 0, "fused", infinite, INFINITE, infinite);
            checks.dueInEveryMode(infinite, 0, "divide", infinite, ZERO);
            checks.dueInEveryMode(ZERO, 0, "divide", infinite & SIGN, infinite);
            for (int zero : ZEROS) {
                checks.dueInEveryMode(infinite, 0, "add", zero, infinite);
                checks.dueInEveryMode(infinite, 0, "fused", zero, ONE, infinite);
            }
        }
        checks.dueInEveryMode(INFINITE, 0, "root", INFINITE);
    }

    private static void noLimits() {
        for (int infinite : INFINITES) {
            checks.dueInEveryMode(NO_NUMBER, INVALID, "add", infinite, infinite ^ SIGN);
            checks.dueInEveryMode(NO_NUMBER, INVALID, "subtract", infinite, infinite);
            for (int sign : SIGNS) {
                checks.dueInEveryMode(NO_NUMBER, INVALID, "multiply", infinite, sign);
                checks.dueInEveryMode(NO_NUMBER, INVALID, "divide", infinite, INFINITE | sign);
                checks.dueInEveryMode(NO_NUMBER, INVALID, "fused", infinite, sign, ONE);
            }
            checks.dueInEveryMode(NO_NUMBER, INVALID, "fused", infinite, ONE, infinite ^ SIGN);
        }
        checks.dueInEveryMode(NO_NUMBER, INVALID, "root", MINUS_INFINITE);
    }

    private static void zerosOfOneSign() {
        for (int zero : ZEROS) {
            checks.dueInEveryMode(zero, 0, "add", zero, zero);
            checks.dueInEveryMode(zero, 0, "fused", zero, ONE, zero);
            checks.dueInEveryMode(zero, 0, "fused", MINUS_ONE, zero ^ SIGN, zero);
            checks.dueInEveryMode(zero, 0, "fused", zero, ZERO, zero);
            checks.dueInEveryMode(zero, 0, "fused", GREATEST | SIGN, zero ^ SIGN, zero);
        }
    }

    private static void zerosOfDifferences() {
        checks.dueInEveryMode(ZERO, 0, "subtract", ZERO, MINUS_ZERO);
        checks.dueInEveryMode(MINUS_ZERO, 0, "subtract", MINUS_ZERO, ZERO);
        checks.dueByMode(ZERO_OF_MODE, 0, "subtract", ZERO, ZERO);
        checks.dueByMode(ZERO_OF_MODE, 0, "subtract", MINUS_ZERO, MINUS_ZERO);
    }

    private static void otherZeros() {
        for (int zero : ZEROS) {
            checks.dueByMode(ZERO_OF_MODE, 0, "add", zero, zero ^ SIGN);
            checks.dueByMode(ZERO_OF_MODE, 0, "fused", zero, ONE, zero ^ SIGN);
            checks.dueByMode(ZERO_OF_MODE, 0, "fused", MINUS_ONE, zero, zero);
        }
        for (int sign : SIGNS) {
            for (int size : FINITES) {
                int a = size | sign;
                checks.dueByMode(ZERO_OF_MODE, 0, "add", a, a ^ SIGN);
                checks.dueByMode(ZERO_OF_MODE, 0, "subtract", a, a);
                checks.dueByMode(ZERO_OF_MODE, 0, "fused", a, ONE, a ^ SIGN);
            }
            checks.dueByMode(ZERO_OF_MODE, 0, "fused", THREE | sign, FOUR, bits(12) ^ SIGN ^ sign);
            checks.dueByMode(ZERO_OF_MODE, 0, "fused", bits(0x1p-75) | sign, bits(0x1p-74), LEAST ^ SIGN ^ sign);
        }
    }

    private static void signsOfProducts() {
        for (int a : SIGNS) {
            for (int b : SIGNS) {
                int sign = a == b ? 0 : SIGN;
                checks.dueInEveryMode(bits(12) | sign, 0, "multiply", THREE | a, FOUR | b);
                checks.dueInEveryMode(bits(0.75) | sign, 0, "divide", THREE | a, FOUR | b);
                for (int size : FINITES) {
                    checks.dueInEveryMode(sign, 0, "multiply", ZERO | a, size | b);
                    checks.dueInEveryMode(sign, 0, "multiply", size | a, ZERO | b);
                    checks.dueInEveryMode(sign, 0, "divide", ZERO | a, size | b);
                    checks.dueInEveryMode(sign, 0, "divide", size | a, INFINITE | b);
                    checks.dueInEveryMode(INFINITE | sign, 0, "multiply", INFINITE | a, size | b);
                    checks.dueInEveryMode(INFINITE | sign, 0, "divide", INFINITE | a, size | b);
                    checks.dueInEveryMode(INFINITE | sign, BY_ZERO, "divide", size | a, ZERO | b);
                }
                checks.dueInEveryMode(sign, 0, "multiply", ZERO | a, ZERO | b);
                checks.dueInEveryMode(sign, 0, "divide", ZERO | a, INFINITE | b);
                checks.dueInEveryMode(INFINITE | sign, 0, "multiply", INFINITE | a, INFINITE | b);
                checks.dueInEveryMode(INFINITE | sign, 0, "divide", INFINITE | a, ZERO | b);
                checks.dueInEveryMode(INFINITE | sign, 0, "fused", INFINITE | a, ONE | b, ONE);
            }
        }
    }

    private static void noNumberInEachPlace() {
        for (int quiet : QUIET) {
            dueNoNumber(quiet, 0);
        }
        for (int infinite : INFINITES) {
            checks.dueInEveryMode(NO_NUMBER, INVALID, "add", infinite, infinite ^ SIGN);
        }
    }

    private static void loudInEachPlace() {
        for (int loud : LOUD) {
            dueNoNumber(loud, INVALID);
            for (int quiet : QUIET) {
                checks.dueInEveryMode(NO_NUMBER, INVALID, "add", quiet, loud);
                checks.dueInEveryMode(NO_NUMBER, INVALID, "multiply", loud, quiet);
                checks.dueInEveryMode(NO_NUMBER, INVALID, "fused", quiet, ONE, loud);
                checks.dueInEveryMode(NO_NUMBER, INVALID, "fused", quiet, loud, quiet);
            }
        }
        // Two that are not loud set nothing, and an operation that is INVALID sets it without any.
        checks.dueInEveryMode(NO_NUMBER, 0, "add", QUIET[0], QUIET[4]);
        checks.dueInEveryMode(NO_NUMBER, 0, "fused", QUIET[0], QUIET[4], QUIET[2]);
        checks.dueInEveryMode(NO_NUMBER, INVALID, "subtract", INFINITE, INFINITE);
    }

    private static void dueNoNumber(int none, int flags) {
        int[] others = {ZERO, MINUS_ZERO, LEAST, ONE, MINUS_ONE, INFINITE, MINUS_INFINITE, QUIET[0], QUIET[4]};
        for (int other : others) {
            for (String name : new String[] {"add", "subtract", "multiply", "divide"}) {
                checks.dueInEveryMode(NO_NUMBER, flags, name, none, other);
                checks.dueInEveryMode(NO_NUMBER, flags, name, other, none);
            }
            checks.dueInEveryMode(NO_NUMBER, flags, "fused", none, other, ONE);
            checks.dueInEveryMode(NO_NUMBER, flags, "fused", other, none, INFINITE);
            checks.dueInEveryMode(NO_NUMBER, flags, "fused", ONE, other, none);
            checks.dueInEveryMode(NO_NUMBER, flags, "fused", other, none, QUIET[1]);
        }
        for (String name : new String[] {"root", "whole", "next"}) {
            checks.dueInEveryMode(NO_NUMBER, flags, name, none);
        }
        for (int n : new int[] {0, 1, -1, 400, -401, Integer.MAX_VALUE, Integer.MIN_VALUE}) {
            checks.dueInEveryMode(NO_NUMBER, flags, "scale", none, n);
        }
    }
}
