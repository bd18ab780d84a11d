import java.util.Arrays;

/** Counts answers that are not the ones due, and makes calls by their names. */
final class Checks {
    private static final int WRONG_ROWS_SHOWN = 50;

    private long checked = 0;
    private long wrong = 0;

    void due(String what, long got, long want) {
        checked++;
        if (got == want) {
            return;
        }
        wrong++;
        if (wrong <= WRONG_ROWS_SHOWN) {
            System.out.println(what + " answered " + shown(got) + ", due is " + shown(want));
        }
    }

    /** One call on a new object in the mode: its answer, and the flags it sets. */
    void dueCall(int mode, int want, int wantFlags, String name, int... operands) {
        RealBits x = new RealBits();
        String what = "mode " + mode + ": " + name + patterns(operands);
        due(what + " (the mode)", x.round(mode) ? 1 : 0, 1);
        due(what, call(x, name, operands), want);
        due(what + " (its flags)", x.flags(), wantFlags);
        due(what + " (the mode after it)", x.mode(), mode);
    }

    void dueInEveryMode(int want, int wantFlags, String name, int... operands) {
        for (int mode = 0; mode < 4; mode++) {
            dueCall(mode, want, wantFlags, name, operands);
        }
    }

    /** The wants are those of the modes 0 to 3; the flags are the same in each. */
    void dueByMode(int[] wants, int wantFlags, String name, int... operands) {
        for (int mode = 0; mode < 4; mode++) {
            dueCall(mode, wants[mode], wantFlags, name, operands);
        }
    }

    static int call(RealBits x, String name, int... p) {
        switch (name) {
            case "add": return x.add(p[0], p[1]);
            case "subtract": return x.subtract(p[0], p[1]);
            case "multiply": return x.multiply(p[0], p[1]);
            case "divide": return x.divide(p[0], p[1]);
            case "root": return x.root(p[0]);
            case "fused": return x.fused(p[0], p[1], p[2]);
            case "scale": return x.scale(p[0], p[1]);
            case "whole": return x.whole(p[0]);
            case "toInt": return x.toInt(p[0]);
            case "fromInt": return x.fromInt(p[0]);
            case "compare": return x.compare(p[0], p[1]);
            case "next": return x.next(p[0]);
            case "kind": return x.kind(p[0]);
            default: throw new IllegalArgumentException(name);
        }
    }

    void end(String test) {
        System.out.println(test + ": " + checked + " answers looked at, " + wrong + " not as due");
        if (wrong != 0 || checked == 0) {
            System.exit(1);
        }
    }

    private static String shown(long answer) {
        return answer + " (0x" + Integer.toHexString((int) answer) + ")";
    }

    private static String patterns(int[] operands) {
        return Arrays.toString(Arrays.stream(operands).mapToObj(p -> "0x" + Integer.toHexString(p)).toArray());
    }
}
