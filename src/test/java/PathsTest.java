/** Promises 9 to 12: isReachable, isBalanced, preserved, surelyDefined. */
public final class PathsTest {
    public static void main(String[] args) {
        reachable();
        balanced();
        preserved();
        preservedThroughCalls();
        surelyDefined();
        surelyDefinedThroughCalls();
        wrongInputs();
        Check.finish();
    }

    private static void reachable() {
        ConventionInference x = Check.program("b2;u0;r;u1;r;u2", "b9;r;u0", "r;b1;u0;u1", "c3;u0", "b1;b1;r;u1");
        Check.same("0", reachableOf(x, 0), "111110");
        Check.same("a branch behind the end", reachableOf(x, 1), "110");
        Check.same("behind a return", reachableOf(x, 2), "1000");
        Check.same("calls come back", reachableOf(x, 3), "11");
        Check.same("4", reachableOf(x, 4), "1111");
        x.removeInstruction(0, 0);
        Check.same("0 without the branch", reachableOf(x, 0), "11000");
    }

    private static String reachableOf(ConventionInference x, int function) {
        StringBuilder all = new StringBuilder();
        for (int i = 0; i < x.length(function); i++) {
            all.append(x.isReachable(function, i) ? '1' : '0');
        }
        return all.toString();
    }

    private static void balanced() {
        String[] good = {"", "r", "+0;-1", "+0;+1;-0;-1;r", "b1;r;+0;-0", "r;-1", "r;+1", "b2;+0;-0;r", "c1;c1",
            "+0" + ";+0".repeat(5) + ";-0".repeat(6), "b1;u0;+1;-1", "+0;b1;u0;-0"};
        String[] bad = {"-0", "+0", "+0;r;-0", "-0;+0", "b1;+0;-0", "b1;+0;r", "b1;r;+0", "+0;b1;-0",
            "+0" + ";+0".repeat(6) + ";-0".repeat(7), "+0;b1;-0;-0;r", "b3;+0;b1;-0;-0", "+0;b2;-0;b1;u0;-0", "+0;-0;-0"};
        for (String text : good) {
            Check.same("isBalanced of " + text, Check.program(text).isBalanced(0), true);
        }
        for (String text : bad) {
            Check.same("isBalanced of " + text, Check.program(text).isBalanced(0), false);
            Check.same("preserved of " + text, Check.program(text).preserved(0), 0);
        }
    }

    private static void preserved() {
        String[] texts = {"u0;l1;s2;b1;r", "d3", "m12", "m11", "m12;m21", "+1;d1;-1", "+1;+2;-1;-2", "+1;+2;-2;-1",
            "b1;d0", "b2;d0;r;d1", "m10;d0;m01", "m10;b1;d0;m01", "b1;m10;d0;m01", "r;d0", "+5;-6",
            "+0;b2;d0;b1;d0;-0", "+0;+0;d0;-0;-1"};
        int[] sets = {255, 247, 253, 255, 253, 255, 249, 255,
            254, 252, 253, 253, 252, 255, 191,
            255, 253};
        for (int i = 0; i < texts.length; i++) {
            Check.same("preserved of " + texts[i], Check.program(texts[i]).preserved(0), sets[i]);
        }
    }

    private static void preservedThroughCalls() {
        ConventionInference x = Check.program("c1", "d1", "+1;c1;-1", "-0", "c3", "c5", "c6", "c5;d7");
        Check.same("the called one clobbers", x.preserved(0), 253);
        Check.same("saved round a call", x.preserved(2), 255);
        Check.same("unbalanced", x.preserved(3), 0);
        Check.same("a call of an unbalanced one", x.preserved(4), 0);
        Check.same("itself alone is the greatest", x.preserved(5), 255);
        Check.same("a call of that one", x.preserved(7), 127);
        Check.same("another that calls itself", x.preserved(6), 255);
        ConventionInference ring = Check.program("c1", "c2", "c3;d2", "b1;c0;+4;d4;-4", "+2;c0;-2", "m35;c0;d3;m53");
        Check.same("ring 0", ring.preserved(0), 251);
        Check.same("ring 1", ring.preserved(1), 251);
        Check.same("ring 2", ring.preserved(2), 251);
        Check.same("ring 3", ring.preserved(3), 251);
        Check.same("round the ring", ring.preserved(4), 255);
        Check.same("lost in a move", ring.preserved(5), 255 & ~4 & ~8 & ~32);
        ConventionInference kept = Check.program("m35;c1;m53", "d5", "m35;c3;m53", "d3;d5");
        Check.same("kept in a register", kept.preserved(0), 247);
        Check.same("kept in a clobbered register", kept.preserved(2), 255 & ~8 & ~32);
    }

    private static void surelyDefined() {
        String[] texts = {"", "d0", "m12", "+1;-3", "-2", "u1;+1;l0;s1", "b1;d0", "b2;d0;b1;d0", "b2;d0;r;d0", "r;d0",
            "b2;d0;r;d1", "d7;b1;d6;d5", "b9;d1", "m11"};
        int[] sets = {0, 1, 2, 8, 4, 0, 0, 1, 1, 0, 0, 160, 0, 2};
        for (int i = 0; i < texts.length; i++) {
            Check.same("surelyDefined of " + texts[i], Check.program(texts[i]).surelyDefined(0), sets[i]);
        }
    }

    private static void surelyDefinedThroughCalls() {
        ConventionInference x = Check.program("c1", "d1;d2", "b1;c1", "b2;c1;r;d2", "c4;d0", "b1;c5;d3", "c7", "c6;d5");
        Check.same("0", x.surelyDefined(0), 6);
        Check.same("2", x.surelyDefined(2), 0);
        Check.same("3", x.surelyDefined(3), 4);
        Check.same("the least for itself", x.surelyDefined(4), 1);
        Check.same("5", x.surelyDefined(5), 8);
        Check.same("6", x.surelyDefined(6), 32);
        Check.same("7", x.surelyDefined(7), 32);
        Check.same("itself alone", Check.program("c0").surelyDefined(0), 0);
        ConventionInference either = Check.program("b2;c0;r;d3");
        Check.same("by itself or not at all is not sure", either.surelyDefined(0), 0);
        Check.same("saved and defined", Check.program("+4;d4;-4").surelyDefined(0), 16);
    }

    private static void wrongInputs() {
        ConventionInference x = Check.program("u0");
        Check.failsOutOfRange("isReachable", f -> x.isReachable(f, 0));
        Check.fails("isReachable", IndexOutOfBoundsException.class, () -> x.isReachable(0, 1));
        Check.fails("isReachable", IndexOutOfBoundsException.class, () -> x.isReachable(0, -1));
        Check.fails("isReachable", IndexOutOfBoundsException.class, () -> x.isReachable(1, 0));
        Check.failsOutOfRange("isBalanced", x::isBalanced);
        Check.failsOutOfRange("preserved", x::preserved);
        Check.failsOutOfRange("surelyDefined", x::surelyDefined);
    }
}
