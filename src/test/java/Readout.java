import java.util.function.Supplier;

/** All that an object answers, written out, so that two objects can be compared. */
final class Readout {
    private final ConventionInference x;
    private final StringBuilder text = new StringBuilder();

    private Readout(ConventionInference x) {
        this.x = x;
    }

    /** Changes the object in its end: the text is read into a body, and what was saved is restored. */
    static String ofAll(ConventionInference x) {
        Readout readout = new Readout(x);
        readout.bodies();
        readout.facts();
        readout.latestRun();
        readout.pendingText();
        readout.savedBodies();
        return readout.text.toString();
    }

    /** All but the text and its fault position. */
    static String ofAllButText(ConventionInference x) {
        Readout readout = new Readout(x);
        readout.bodies();
        readout.facts();
        readout.latestRun();
        readout.savedBodies();
        return readout.text.toString();
    }

    private void bodies() {
        for (int function = 0; function < 8; function++) {
            int f = function;
            add("length(" + f + ")", () -> x.length(f));
            for (int index = 0; index < x.length(f); index++) {
                int i = index;
                add("instruction(" + f + ", " + i + ")", () -> x.instruction(f, i));
                add("operand(" + f + ", " + i + ")", () -> x.operand(f, i));
            }
        }
    }

    private void facts() {
        for (int function = 0; function < 8; function++) {
            int f = function;
            add("isBalanced(" + f + ")", () -> x.isBalanced(f));
            add("preserved(" + f + ")", () -> x.preserved(f));
            add("surelyDefined(" + f + ")", () -> x.surelyDefined(f));
            add("arguments(" + f + ")", () -> x.arguments(f));
            add("results(" + f + ")", () -> x.results(f));
            add("liveBefore(" + f + ", 0)", () -> x.liveBefore(f, 0));
            add("neededSlots(" + f + ")", () -> x.neededSlots(f));
            add("isVariadic(" + f + ")", () -> x.isVariadic(f));
            add("callees(" + f + ")", () -> x.callees(f));
            add("role(" + f + ")", () -> x.role(f));
        }
        add("siteCount()", x::siteCount);
        for (int site = 0; site < x.siteCount(); site++) {
            int s = site;
            add("site(" + s + ", 1)", () -> x.site(s, 1));
            add("passedSlots(" + s + ")", () -> x.passedSlots(s));
            add("missingSlots(" + s + ")", () -> x.missingSlots(s));
            add("lostRegisters(" + s + ")", () -> x.lostRegisters(s));
            add("liveBehind(" + s + ")", () -> x.liveBehind(s));
        }
        add("problems()", x::problems);
        add("firstProblem()", x::firstProblem);
        add("preservedShare()", x::preservedShare);
        add("problemShare()", x::problemShare);
    }

    private void latestRun() {
        add("isCut()", x::isCut);
        add("observed()", x::observed);
        for (int register = 0; register < 8; register++) {
            int r = register;
            add("origin(" + r + ")", () -> x.origin(r));
        }
    }

    /** A digit ends the instruction that the texts of these tests have begun. */
    private void pendingText() {
        add("faultPosition()", x::faultPosition);
        add("appendCharacter('3')", () -> x.appendCharacter('3'));
        add("setBody(6)", () -> x.setBody(6));
        add("faultPosition()", x::faultPosition);
        bodies();
    }

    private void savedBodies() {
        add("restore()", () -> {
            x.restore();
            return "nothing";
        });
        bodies();
    }

    private void add(String call, Supplier<Object> asked) {
        Object answer;
        try {
            answer = asked.get();
        } catch (RuntimeException e) {
            answer = e.getClass().getSimpleName();
        }
        text.append(call).append(" = ").append(answer).append("; ");
    }
}
