import java.util.ArrayList;
import java.util.Arrays;
import java.util.List;

/** Counts answers that are not the ones due, and makes calls by their names. */
final class Checks {
    private static final int WRONG_ROWS_SHOWN = 8;
    private static final int ALL_FLAGS = 31;

    private final List<String> broken = new ArrayList<>();
    private String sentence = "";
    private int sentences = 0;
    private long checkedBefore = 0;
    private long wrongBefore = 0;
    private long checked = 0;
    private long wrong = 0;

    /** Runs the test of one sentence of the document; what it finds is told under these words. */
    void sentence(String words, Runnable test) {
        sentence = words;
        sentences++;
        checkedBefore = checked;
        wrongBefore = wrong;
        test.run();
        if (wrong != wrongBefore || checked == checkedBefore) {
            broken.add(words);
        }
    }

    void due(String what, long got, long want) {
        checked++;
        if (got == want) {
            return;
        }
        wrong++;
        if (wrong - wrongBefore == 1 && !sentence.isEmpty()) {
            System.out.println("\"" + sentence + "\"");
        }
        if (wrong - wrongBefore <= WRONG_ROWS_SHOWN) {
            System.out.println("  " + what + " answered " + shown(got) + ", due is " + shown(want));
        }
    }

    void due(String what, boolean got, boolean want) {
        due(what, got ? 1 : 0, want ? 1 : 0);
    }

    /** One call on a new object in the mode: its answer, and the flags it sets. */
    void dueCall(int mode, int want, int wantFlags, String name, int... operands) {
        RealBits x = new RealBits();
        String what = "mode " + mode + ": " + name + patterns(operands);
        due(what + " (the mode)", x.round(mode), true);
        due(what, call(x, name, operands), want);
        due(what + " (its flags)", x.flags(), wantFlags);
        due(what + " (the mode after it)", x.mode(), mode);
    }

    /** The same on an object with a past: no flag goes, and neither flags nor other modes count. */
    void dueCallAfterOthers(int mode, int want, int wantFlags, String name, int... operands) {
        RealBits x = new RealBits();
        String what = "after others, mode " + mode + ": " + name + patterns(operands);
        setEveryFlag(x, 3 - mode);
        x.round(mode);
        due(what, call(x, name, operands), want);
        due(what + " (flags with all set)", x.flags(), ALL_FLAGS);
        due(what + " (clear)", x.clear(), ALL_FLAGS);
        due(what + " (after clear)", call(x, name, operands), want);
        due(what + " (flags after clear)", x.flags(), wantFlags);
    }

    void dueInEveryMode(int want, int wantFlags, String name, int... operands) {
        dueByMode(new int[] {want, want, want, want}, wantFlags, name, operands);
    }

    /** The wants are those of the modes 0 to 3; the flags are the same in each. */
    void dueByMode(int[] wants, int wantFlags, String name, int... operands) {
        dueByMode(wants, new int[] {wantFlags, wantFlags, wantFlags, wantFlags}, name, operands);
    }

    void dueByMode(int[] wants, int[] wantFlags, String name, int... operands) {
        for (int mode = 0; mode < 4; mode++) {
            dueCall(mode, wants[mode], wantFlags[mode], name, operands);
            dueCallAfterOthers(mode, wants[mode], wantFlags[mode], name, operands);
        }
    }

    static void setEveryFlag(RealBits x, int mode) {
        int one = 0x3F800000;
        int greatest = 0x7F7FFFFF;
        x.round(mode);
        x.multiply(1, 1);
        x.add(greatest, greatest);
        x.divide(one, 0);
        x.divide(0, 0);
    }

    static int call(RealBits x, String name, int... p) {
        switch (name) {
            case "add": return x.add(p[0], p[1]);
            case "subtract": return x.subtract(p[0], p[1]);
            case "multiply": return x.multiply(p[0], p[1]);
            case "divide": return x.divide(p[0], p[1]);
            case "root": return x.root(p[0]);
            case "fused": return x.fused(p[0], p[1], p[2]);
            case "scale": return x.scale(p[0], p[1]);
            case "whole": return x.whole(p[0]);
            case "toInt": return x.toInt(p[0]);
            case "fromInt": return x.fromInt(p[0]);
            case "compare": return x.compare(p[0], p[1]);
            case "next": return x.next(p[0]);
            case "kind": return x.kind(p[0]);
            default: throw new IllegalArgumentException(name);
        }
    }

    void end(String test) {
        for (String words : broken) {
            System.out.println("BROKEN: " + words);
        }
        String ofSentences = sentences == 0 ? "" : sentences + " sentences, ";
        System.out.println(test + ": " + ofSentences + checked + " answers looked at, " + wrong + " not as due");
        if (wrong != 0 || checked == 0 || !broken.isEmpty()) {
            System.exit(1);
        }
    }

    private static String shown(long answer) {
        return answer + " (0x" + Integer.toHexString((int) answer) + ")";
    }

    private static String patterns(int[] operands) {
        return Arrays.toString(Arrays.stream(operands).mapToObj(p -> "0x" + Integer.toHexString(p)).toArray());
    }
}
