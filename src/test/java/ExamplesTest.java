/** The four examples of the document. */
public final class ExamplesTest {
    public static void main(String[] args) {
        argumentThatIsPassedOn();
        registerThatIsSaved();
        slotThatIsNotPassed();
        popFromAnEmptyStack();
        Check.finish();
    }

    private static void argumentThatIsPassedOn() {
        ConventionInference x = new ConventionInference();
        Check.same("setBody(1)", Check.body(x, 1, "m01"), 1);
        Check.same("setBody(0)", Check.body(x, 0, "c1;u0"), 2);
        Check.same("preserved(1)", x.preserved(1), 254);
        Check.same("arguments(0)", x.arguments(0), 2);
        Check.same("results(1)", x.results(1), 1);
        Check.same("role(0)", x.role(0), 2);
    }

    private static void registerThatIsSaved() {
        ConventionInference x = new ConventionInference();
        Check.same("setBody(1)", Check.body(x, 1, "+4;d4;-4"), 3);
        Check.same("preserved(1)", x.preserved(1), 255);
        Check.same("surelyDefined(1)", x.surelyDefined(1), 16);
        Check.same("run(1, 0)", x.run(1, 0), 3);
        Check.same("observed()", x.observed(), 255);
    }

    private static void slotThatIsNotPassed() {
        ConventionInference x = new ConventionInference();
        Check.same("setBody(1)", Check.body(x, 1, "l1"), 1);
        Check.same("setBody(0)", Check.body(x, 0, "s0;c1"), 2);
        Check.same("missingSlots(0)", x.missingSlots(0), 2);
        Check.same("problems()", x.problems(), 1);
    }

    private static void popFromAnEmptyStack() {
        ConventionInference x = new ConventionInference();
        Check.same("setBody(0)", Check.body(x, 0, "-1"), 1);
        Check.same("isBalanced(0)", x.isBalanced(0), false);
        Check.same("run(0, 0)", x.run(0, 0), 0);
        Check.same("isCut()", x.isCut(), true);
        Check.same("faultPosition()", x.faultPosition(), -1);
    }
}
