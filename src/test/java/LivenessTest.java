/** Promises 13 to 15 and 26: arguments, results, liveBefore, liveBehind. */
public final class LivenessTest {
    public static void main(String[] args) {
        argumentsOfOneBody();
        argumentsThroughCalls();
        results();
        resultsPassedOn();
        liveBefore();
        liveBehind();
        wrongInputs();
        Check.finish();
    }

    private static void argumentsOfOneBody() {
        String[] texts = {"", "u3", "d3;u3", "u3;d3", "m12", "m12;u1", "m11", "+4;-4", "+4;-4;u4", "b1;d0;u0", "b2;u0;r;u1",
            "r;u0", "l0;s1", "-2;u2", "b9;u6", "m12;m21;u1;u2"};
        int[] sets = {0, 8, 0, 8, 4, 4, 2, 0, 0, 1, 3,
            0, 0, 0, 64, 4};
        for (int i = 0; i < texts.length; i++) {
            Check.same("arguments of " + texts[i], Check.program(texts[i]).arguments(0), sets[i]);
        }
    }

    private static void argumentsThroughCalls() {
        ConventionInference x = Check.program("c1", "u1;u2", "d1;c1", "c1;u3", "c5;u4", "d4", "c7;u5", "c6");
        Check.same("passed on", x.arguments(0), 6);
        Check.same("one is defined", x.arguments(2), 4);
        Check.same("behind a call that preserves", x.arguments(3), 14);
        Check.same("behind a call that clobbers", x.arguments(4), 0);
        Check.same("in a ring", x.arguments(6), 32);
        Check.same("in a ring", x.arguments(7), 32);
        Check.same("the least", Check.program("c0").arguments(0), 0);
        Check.same("an unbalanced one clobbers all", Check.program("c1;u3;u4", "-1").arguments(0), 0);
    }

    private static void results() {
        ConventionInference x = Check.program("c1;u0;u3", "d0;d1", "r;c3;u2", "d2", "c5;u6", "b1;d6", "c7;u4", "+4;d4;-4");
        Check.same("used behind a call", x.results(1), 1);
        Check.same("an unreachable call", x.results(3), 0);
        Check.same("not surely defined", x.results(5), 0);
        Check.same("preserved", x.results(7), 0);
        Check.same("a caller", x.results(0), 0);
        Check.same("nobody calls", Check.program("d0;d1").results(0), 0);
        Check.same("two callers", Check.program("c2;u0", "c2;u1", "d0;d1;d2").results(2), 3);
        Check.same("defined behind the call", Check.program("c1;d0;u0", "d0").results(1), 0);
        Check.same("saved but not used", Check.program("c1;+0;-1", "d0").results(1), 0);
    }

    private static void resultsPassedOn() {
        ConventionInference x = Check.program("c1;u0", "c2", "c3", "m01");
        Check.same("1", x.results(1), 1);
        Check.same("2", x.results(2), 1);
        Check.same("3", x.results(3), 1);
        Check.same("arguments of 0", x.arguments(0), 2);
        Check.same("arguments of 2", x.arguments(2), 2);
        Check.same("live at its return", x.liveBehind(2), 1);
        ConventionInference itself = Check.program("c1;u5", "b1;c1;d5", "c3", "d6;b1;c3;r");
        Check.same("of a recursive one", itself.results(1), 32);
        Check.same("dead results stay dead", itself.results(3), 0);
        Check.same("kept through a return", Check.program("c1;u2", "d2;b1;r;u1").liveBefore(1, 2), 4);
    }

    private static void liveBefore() {
        ConventionInference x = Check.program("b2;u1;r;u2;r;u3", "d1;c2;u1", "u4");
        Check.same("0, 0", x.liveBefore(0, 0), 6);
        Check.same("0, 1", x.liveBefore(0, 1), 2);
        Check.same("0, 2", x.liveBefore(0, 2), 0);
        Check.same("0, 3", x.liveBefore(0, 3), 4);
        Check.fails("0, 5", IllegalStateException.class, () -> x.liveBefore(0, 5));
        Check.same("1, 0", x.liveBefore(1, 0), 16);
        Check.same("1, 1", x.liveBefore(1, 1), 18);
        Check.same("1, 2", x.liveBefore(1, 2), 2);
        x.removeInstruction(0, 0);
        Check.fails("0, 2", IllegalStateException.class, () -> x.liveBefore(0, 2));
        Check.same("0, 0 then", x.liveBefore(0, 0), 2);
    }

    private static void liveBehind() {
        ConventionInference x = Check.program("c1;u2;c1;b1;u3;u4", "d7;c2", "d2");
        Check.same("0", x.liveBehind(0), 28);
        Check.same("1", x.liveBehind(1), 24);
        Check.same("2", x.liveBehind(2), 4);
        Check.fails("3", IndexOutOfBoundsException.class, () -> x.liveBehind(3));
        Check.fails("-1", IndexOutOfBoundsException.class, () -> x.liveBehind(-1));
    }

    private static void wrongInputs() {
        ConventionInference x = Check.program("u0;r;r");
        Check.failsOutOfRange("arguments", x::arguments);
        Check.failsOutOfRange("results", x::results);
        Check.failsOutOfRange("liveBefore", f -> x.liveBefore(f, 0));
        Check.failsOutOfRange("liveBehind", x::liveBehind);
        for (int index : new int[] {-1, 3, 14, Integer.MIN_VALUE, Integer.MAX_VALUE}) {
            Check.fails("liveBefore", IndexOutOfBoundsException.class, () -> x.liveBefore(0, index));
        }
        Check.fails("an empty body", IndexOutOfBoundsException.class, () -> x.liveBefore(1, 0));
        Check.fails("not reachable", IllegalStateException.class, () -> x.liveBefore(0, 2));
    }
}
