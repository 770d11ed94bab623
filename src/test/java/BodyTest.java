/** Promises 5 to 8: length, instruction, operand, removeInstruction. */
public final class BodyTest {
    public static void main(String[] args) {
        reading();
        wrongReading();
        removing();
        branchesStayWhenRemoving();
        wrongRemoving();
        Check.finish();
    }

    private static void reading() {
        ConventionInference x = new ConventionInference();
        Check.body(x, 3, "u1;d2;m34;+5;-6;c7;l0;s3;b9;r;m70;m07;m00");
        String kinds = "udm+-clsbrmmm";
        int[] numbers = {1, 2, 34, 5, 6, 7, 0, 3, 9, -1, 70, 7, 0};
        Check.same("length", x.length(3), 13);
        for (int i = 0; i < 13; i++) {
            Check.same("instruction " + i, x.instruction(3, i), kinds.charAt(i));
            if (i != 9) {
                Check.same("operand " + i, x.operand(3, i), numbers[i]);
            }
        }
        Check.fails("operand of r", UnsupportedOperationException.class, () -> x.operand(3, 9));
        Check.same("another body", x.length(2), 0);
        Check.body(x, 3, "b1;r");
        Check.same("a new body", x.length(3), 2);
        Check.same("a new body", x.instruction(3, 1), 'r');
    }

    private static void wrongReading() {
        ConventionInference x = Check.program("u1;r", "r;r;r");
        Check.failsOutOfRange("length", x::length);
        Check.failsOutOfRange("instruction", f -> x.instruction(f, 0));
        Check.failsOutOfRange("operand", f -> x.operand(f, 0));
        for (int index : new int[] {-1, 2, 14, Integer.MIN_VALUE, Integer.MAX_VALUE}) {
            Check.fails("instruction", IndexOutOfBoundsException.class, () -> x.instruction(0, index));
            Check.fails("operand", IndexOutOfBoundsException.class, () -> x.operand(0, index));
        }
        Check.fails("an empty body", IndexOutOfBoundsException.class, () -> x.instruction(2, 0));
        Check.fails("an empty body", IndexOutOfBoundsException.class, () -> x.operand(2, 0));
    }

    private static void removing() {
        ConventionInference x = Check.program("u0;u1;u2;r", "u7");
        Check.same("the middle", x.removeInstruction(0, 1), 3);
        Check.same("length", x.length(0), 3);
        Check.same("0", x.operand(0, 0), 0);
        Check.same("1", x.operand(0, 1), 2);
        Check.same("2", x.instruction(0, 2), 'r');
        Check.same("the last", x.removeInstruction(0, 2), 2);
        Check.same("the first", x.removeInstruction(0, 0), 1);
        Check.same("0", x.operand(0, 0), 2);
        Check.same("the only one", x.removeInstruction(0, 0), 0);
        Check.same("arguments", x.arguments(0), 0);
        Check.same("the other body", x.operand(1, 0), 7);
        ConventionInference full = Check.program("u0" + ";u0".repeat(12) + ";u5");
        Check.same("of 14", full.removeInstruction(0, 0), 13);
        Check.same("the last", full.operand(0, 12), 5);
        Check.same("arguments", full.arguments(0), 33);
    }

    private static void branchesStayWhenRemoving() {
        ConventionInference x = Check.program("b1;u0;u1;u2");
        Check.same("length", x.removeInstruction(0, 1), 3);
        Check.same("the branch", x.operand(0, 0), 1);
        Check.same("facts are new", x.arguments(0), 6);
        x.run(0, 1);
        Check.same("the branch skips one", x.run(0, 1), 2);
    }

    private static void wrongRemoving() {
        ConventionInference x = Check.program("u0;u1");
        x.run(0, 0);
        Check.failsOutOfRange("removeInstruction", f -> x.removeInstruction(f, 0));
        for (int index : new int[] {-1, 2, 13, Integer.MIN_VALUE, Integer.MAX_VALUE}) {
            Check.fails("removeInstruction", IndexOutOfBoundsException.class, () -> x.removeInstruction(0, index));
        }
        Check.fails("an empty body", IndexOutOfBoundsException.class, () -> x.removeInstruction(1, 0));
        Check.same("the body stays", x.length(0), 2);
        Check.same("the run stays", x.observed(), 255);
    }
}
