/** Promises 37 and 38: save, restore. */
public final class SaveTest {
    public static void main(String[] args) {
        savedBodies();
        textAndFaultStay();
        nothingSaved();
        Check.finish();
    }

    private static void savedBodies() {
        ConventionInference x = Check.program("u0;c1", "l2;m34;r", "", "", "", "", "", "d7");
        x.save();
        Check.body(x, 0, "d1;d2;d3");
        Check.body(x, 7, "");
        Check.body(x, 2, "u5");
        x.removeInstruction(1, 0);
        x.restore();
        Check.same("length(0)", x.length(0), 2);
        Check.same("length(1)", x.length(1), 3);
        Check.same("length(2)", x.length(2), 0);
        Check.same("length(7)", x.length(7), 1);
        Check.same("operand(1, 1)", x.operand(1, 1), 34);
        Check.same("instruction(1, 2)", x.instruction(1, 2), 'r');
        Check.same("facts are new", x.arguments(0), 1 | 16);
        Check.same("facts are new", x.neededSlots(1), 3);
        x.removeInstruction(1, 2);
        x.restore();
        Check.same("they stay saved", x.length(1), 3);
        Check.body(x, 0, "r");
        x.save();
        Check.body(x, 0, "u1;u2");
        x.restore();
        Check.same("in place of what was saved before", x.length(0), 1);
        Check.same("a copy, not the same", x.removeInstruction(0, 0), 0);
        x.restore();
        Check.same("a copy, not the same", x.length(0), 1);
    }

    private static void textAndFaultStay() {
        ConventionInference x = Check.program("u0");
        x.save();
        Check.fails("a fault", IllegalArgumentException.class, () -> Check.body(x, 0, "u0x"));
        Check.write(x, "d5");
        x.restore();
        Check.same("the fault position stays", x.faultPosition(), 2);
        Check.same("the text stays", x.setBody(0), 1);
        Check.same("the text stays", x.operand(0, 0), 5);
    }

    private static void nothingSaved() {
        ConventionInference x = Check.program("u0");
        Check.fails("restore", IllegalStateException.class, x::restore);
        Check.same("the bodies stay", x.length(0), 1);
        ConventionInference empty = new ConventionInference();
        empty.save();
        Check.body(empty, 0, "u0");
        empty.restore();
        Check.same("empty bodies are saved too", empty.length(0), 0);
    }
}
