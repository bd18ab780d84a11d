/** To the nearest, the answers are those of Java's own float. */
public final class FloatTest {
    private static final int ROUNDS = 300_000;

    private static final Checks checks = new Checks();
    private static long seed = 1;

    public static void main(String[] args) {
        for (int i = 0; i < ROUNDS; i++) {
            compareAll(random(), random(), random());
        }
        checks.end("FloatTest");
    }

    private static void compareAll(int p, int q, int r) {
        float a = Float.intBitsToFloat(p);
        float b = Float.intBitsToFloat(q);
        float c = Float.intBitsToFloat(r);
        RealBits x = new RealBits();
        same("add", x.add(p, q), a + b, p, q);
        same("subtract", x.subtract(p, q), a - b, p, q);
        same("multiply", x.multiply(p, q), a * b, p, q);
        same("divide", x.divide(p, q), a / b, p, q);
        same("root", x.root(p), (float) Math.sqrt(a), p);
        same("fused", x.fused(p, q, r), Math.fma(a, b, c), p, q, r);
        same("whole", x.whole(p), (float) Math.rint(a), p);
        same("next", x.next(p), Math.nextUp(a), p);
        same("scale", x.scale(p, r % 400), Math.scalb(a, r % 400), p, r % 400);
        same("fromInt", x.fromInt(q), (float) q, q);
    }

    private static void same(String name, int got, float want, int... operands) {
        // floatToIntBits gives every no number the pattern that the document gives it.
        checks.due(name + java.util.Arrays.toString(operands), got, Float.floatToIntBits(want));
    }

    private static int random() {
        seed = seed * 6364136223846793005L + 1442695040888963407L;
        int bits = (int) (seed >>> 32);
        return (seed >>> 30 & 1) == 0 ? bits : bits & 0x800FFFFF | 0x3F800000 - (bits >>> 20 & 7) * 0x800000;
    }
}
