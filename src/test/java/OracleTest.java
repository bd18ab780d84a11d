/** Every call in every mode against exact arithmetic on whole numbers of any length. */
public final class OracleTest {
    private static final int[] SIZES = {
        0, 1, 2, 3, 0x00000100, 0x003FFFFF, 0x00400000, 0x00400001, 0x007FFFFE, 0x007FFFFF,
        0x00800000, 0x00800001, 0x00FFFFFF, 0x01000000, 0x01000001, 0x0C000000, 0x1A3504F3, 0x1F800000,
        0x20000000, 0x33000000, 0x33000001, 0x33800000, 0x34000000, 0x3EFFFFFF, 0x3F000000, 0x3F000001,
        0x3F7FFFFF, 0x3F800000, 0x3F800001, 0x3FC00000, 0x40000000, 0x40200000, 0x40400000, 0x4AFFFFFF,
        0x4B000000, 0x4B000001, 0x4B7FFFFF, 0x4B800000, 0x4EFFFFFF, 0x4F000000, 0x4F000001, 0x4F7FFFFF,
        0x5F7FFFFF, 0x5F800000, 0x73000000, 0x72FFFFFF, 0x7E800000, 0x7F000000, 0x7F7FFFFE, 0x7F7FFFFF,
        0x7F800000, 0x7F800001, 0x7FBFFFFF, 0x7FC00000, 0x7FFFFFFF,
    };
    private static final int[] FEWER_SIZES = {
        0, 1, 3, 0x007FFFFF, 0x00800000, 0x00800001, 0x1F800000, 0x20000000, 0x33800000, 0x3F000000,
        0x3F7FFFFF, 0x3F800000, 0x3F800001, 0x5F800000, 0x7F000000, 0x7F7FFFFF, 0x7F800000, 0x7F800001,
        0x7FC00000,
    };
    private static final int[] POWERS = {
        0, 1, -1, 23, 24, -23, -24, -25, 126, 127, 128, -126, -127, -148, -149, -150, -151, 149, 253, 276, 277,
        278, -277, -278, 399, 400, 401, -399, -400, -401, Integer.MAX_VALUE, Integer.MIN_VALUE,
    };
    private static final String[] OF_ONE = {"root", "whole", "toInt", "fromInt", "next", "kind"};
    private static final String[] OF_TWO = {"add", "subtract", "multiply", "divide", "compare"};
    private static final int RANDOM_ROUNDS = 60_000;

    private static final Checks checks = new Checks();
    private static long seed = 20261116;

    public static void main(String[] args) {
        int[] patterns = withBothSigns(SIZES);
        for (int a : patterns) {
            callsOfOne(a);
            for (int n : POWERS) {
                same("scale", a, n);
            }
            for (int b : patterns) {
                callsOfTwo(a, b);
            }
        }
        everyTriple(withBothSigns(FEWER_SIZES));
        for (int i = 0; i < RANDOM_ROUNDS; i++) {
            randomRound();
        }
        checks.end("OracleTest");
    }

    private static void callsOfOne(int a) {
        for (String name : OF_ONE) {
            same(name, a);
        }
    }

    private static void callsOfTwo(int a, int b) {
        for (String name : OF_TWO) {
            same(name, a, b);
        }
    }

    private static void everyTriple(int[] patterns) {
        for (int a : patterns) {
            for (int b : patterns) {
                for (int c : patterns) {
                    same("fused", a, b, c);
                }
            }
        }
    }

    private static void randomRound() {
        int a = random();
        int b = random();
        callsOfOne(a);
        callsOfTwo(a, b);
        callsOfTwo(a, near(a));
        same("scale", a, b % 420);
        same("scale", a, -150 - (a >>> 23 & 255) + 127 + (b & 31));
        same("fused", a, b, random());
        // A third part close to the product makes the upper bits cancel.
        int product = Float.floatToRawIntBits(Float.intBitsToFloat(a) * Float.intBitsToFloat(b));
        same("fused", a, b, near(product) ^ 0x80000000);
        nearTheLeast(a, b);
    }

    /** Products and quotients about 2^-126 and about 2^128, and whole numbers about 2^0 and 2^31. */
    private static void nearTheLeast(int a, int b) {
        int first = withExponent(a, 64 + (a >>> 3 & 1));
        int second = withExponent(b, 62 - (b >>> 2 & 31));
        same("multiply", first, second);
        same("fused", first, second, withExponent(random(), b & 7));
        same("divide", withExponent(a, 1 + (a & 31)), withExponent(b, 127 + (b & 31)));
        same("multiply", withExponent(a, 190 + (a & 1)), withExponent(b, 190 + (b & 1)));
        same("divide", withExponent(a, 253 + (a & 1)), withExponent(b, 126 - (b & 1)));
        int nearOne = withExponent(a, 120 + (b & 63));
        same("whole", nearOne);
        same("toInt", nearOne);
        same("fromInt", a >> (b & 31));
    }

    private static void same(String name, int... operands) {
        for (int mode = 0; mode < 4; mode++) {
            Oracle oracle = new Oracle(mode);
            int want = oracle.answer(name, operands);
            checks.dueCall(mode, want, oracle.flags, name, operands);
        }
    }

    private static int[] withBothSigns(int[] sizes) {
        int[] patterns = new int[2 * sizes.length];
        for (int i = 0; i < sizes.length; i++) {
            patterns[2 * i] = sizes[i];
            patterns[2 * i + 1] = sizes[i] | 0x80000000;
        }
        return patterns;
    }

    private static int withExponent(int a, int exponent) {
        return a & 0x807FFFFF | exponent << 23;
    }

    private static int near(int a) {
        return a ^ random() >>> (random() & 31);
    }

    // The same numbers in every run, so that a fault that is seen once is seen again.
    private static int random() {
        seed = seed * 6364136223846793005L + 1442695040888963407L;
        int bits = (int) (seed >>> 32);
        return switch ((int) (seed >>> 28) & 3) {
            case 0 -> bits & 0xFFFFF000;
            case 1 -> bits & 0xFF800000 | (bits & 15);
            default -> bits;
        };
    }
}
