import java.util.NoSuchElementException;
import java.util.function.Consumer;
import java.util.function.Supplier;

/** What the description says of exceptions: the state behind a refused call, and the order of the checks. */
final class RefusalSentences {
    private static final int[] FAR = {Integer.MIN_VALUE, -1, 8, Integer.MAX_VALUE};

    private RefusalSentences() {
    }

    static void check() {
        Check.sentence(0, "A call that throws an exception leaves the state unchanged,");
        noFunction();
        noInstruction();
        noSite();
        noRegister();
        wrongNumbers();
        wrongStates();
        textTreatedAsDescribed();
        order();
    }

    /** Bodies, others that are saved, a run that was not cut, a fault position and the beginning of a text. */
    private static ConventionInference rich() {
        ConventionInference x = Check.program("s0;c1;u0;b1;r", "d0;l1;+4;d4;-4", "r;u3", "", "", "d1;-0", "", "c2;u3");
        x.save();
        Check.body(x, 3, "m12;c7");
        x.removeInstruction(7, 1);
        Check.fails("a fault", IllegalArgumentException.class, () -> Check.body(x, 4, "u9"));
        x.run(0, 5);
        Check.write(x, "d5;u");
        return x;
    }

    private static ConventionInference cut() {
        ConventionInference x = rich();
        x.run(5, 0);
        return x;
    }

    private static ConventionInference full() {
        ConventionInference x = rich();
        Check.write(x, "3" + ";m12".repeat(13) + ";u4");
        return x;
    }

    private static ConventionInference fresh() {
        ConventionInference x = new ConventionInference();
        Check.write(x, "d5;u");
        return x;
    }

    /** Compares with an object that was made alike and of which the call was not asked. */
    private static void refused(String name, Supplier<ConventionInference> maker, Class<? extends RuntimeException> due,
            Consumer<ConventionInference> call) {
        ConventionInference x = maker.get();
        Check.fails(name, due, () -> call.accept(x));
        Check.same("all behind " + name, Readout.ofAll(x), Readout.ofAll(maker.get()));
    }

    private static void outOfBounds(String name, Consumer<ConventionInference> call) {
        refused(name, RefusalSentences::rich, IndexOutOfBoundsException.class, call);
        refused(name + " of a new object", RefusalSentences::fresh, IndexOutOfBoundsException.class, call);
        refused(name + " behind a cut run", RefusalSentences::cut, IndexOutOfBoundsException.class, call);
    }

    private static void noFunction() {
        for (int function : FAR) {
            outOfBounds("setBody", x -> x.setBody(function));
            outOfBounds("length", x -> x.length(function));
            outOfBounds("isBalanced", x -> x.isBalanced(function));
            outOfBounds("preserved", x -> x.preserved(function));
            outOfBounds("surelyDefined", x -> x.surelyDefined(function));
            outOfBounds("arguments", x -> x.arguments(function));
            outOfBounds("results", x -> x.results(function));
            outOfBounds("neededSlots", x -> x.neededSlots(function));
            outOfBounds("isVariadic", x -> x.isVariadic(function));
            outOfBounds("callees", x -> x.callees(function));
            outOfBounds("callersOf", x -> x.callersOf(function));
            outOfBounds("isRecursive", x -> x.isRecursive(function));
            outOfBounds("run", x -> x.run(function, -1));
        }
    }

    private static void noInstruction() {
        int[][] places = {{-1, 0}, {8, 0}, {0, -1}, {0, 5}, {4, 0}, {Integer.MAX_VALUE, 0}, {0, Integer.MIN_VALUE}};
        for (int[] place : places) {
            outOfBounds("instruction", x -> x.instruction(place[0], place[1]));
            outOfBounds("operand", x -> x.operand(place[0], place[1]));
            outOfBounds("removeInstruction", x -> x.removeInstruction(place[0], place[1]));
            outOfBounds("isReachable", x -> x.isReachable(place[0], place[1]));
            outOfBounds("liveBefore", x -> x.liveBefore(place[0], place[1]));
        }
    }

    private static void noSite() {
        for (int site : new int[] {-1, 3, 112, Integer.MIN_VALUE, Integer.MAX_VALUE}) {
            outOfBounds("site", x -> x.site(site, 0));
            outOfBounds("passedSlots", x -> x.passedSlots(site));
            outOfBounds("missingSlots", x -> x.missingSlots(site));
            outOfBounds("lostRegisters", x -> x.lostRegisters(site));
            outOfBounds("liveBehind", x -> x.liveBehind(site));
        }
    }

    private static void noRegister() {
        for (int register : FAR) {
            outOfBounds("votes", x -> x.votes(register, 0));
            outOfBounds("role", x -> x.role(register));
            outOfBounds("origin", x -> x.origin(register));
        }
    }

    private static void wrongNumbers() {
        for (int number : new int[] {-1, 4, 32, Integer.MIN_VALUE, Integer.MAX_VALUE}) {
            refused("site", RefusalSentences::rich, IllegalArgumentException.class, x -> x.site(0, number));
            refused("votes", RefusalSentences::rich, IllegalArgumentException.class, x -> x.votes(0, number));
            refused("votes", RefusalSentences::fresh, IllegalArgumentException.class, x -> x.votes(7, number));
        }
        for (int character : new int[] {32, 127, -1, 0, Integer.MIN_VALUE, Integer.MAX_VALUE}) {
            refused("appendCharacter", RefusalSentences::rich, IllegalArgumentException.class, x -> x.appendCharacter(character));
            refused("appendCharacter", RefusalSentences::full, IllegalArgumentException.class, x -> x.appendCharacter(character));
        }
    }

    private static void wrongStates() {
        refused("appendCharacter", RefusalSentences::full, IllegalStateException.class, x -> x.appendCharacter('r'));
        refused("operand", RefusalSentences::rich, UnsupportedOperationException.class, x -> x.operand(0, 4));
        refused("liveBefore", RefusalSentences::rich, IllegalStateException.class, x -> x.liveBefore(2, 1));
        refused("firstProblem", RefusalSentences::fresh, NoSuchElementException.class, ConventionInference::firstProblem);
        refused("role", RefusalSentences::fresh, NoSuchElementException.class, x -> x.role(0));
        refused("isCut", RefusalSentences::fresh, IllegalStateException.class, ConventionInference::isCut);
        refused("observed", RefusalSentences::fresh, IllegalStateException.class, ConventionInference::observed);
        refused("origin", RefusalSentences::fresh, IllegalStateException.class, x -> x.origin(0));
        refused("observed", RefusalSentences::cut, NoSuchElementException.class, ConventionInference::observed);
        refused("origin", RefusalSentences::cut, NoSuchElementException.class, x -> x.origin(1));
        refused("origin", RefusalSentences::rich, NoSuchElementException.class, x -> x.origin(0));
        refused("preservedShare", RefusalSentences::fresh, ArithmeticException.class, ConventionInference::preservedShare);
        refused("problemShare", RefusalSentences::fresh, ArithmeticException.class, ConventionInference::problemShare);
        refused("restore", RefusalSentences::fresh, IllegalStateException.class, ConventionInference::restore);
    }

    private static void textTreatedAsDescribed() {
        Check.sentence(0, "except that the text and its fault position are treated as described.");
        for (int function = 0; function < 8; function++) {
            refusedText(function, ";", IllegalArgumentException.class, 4);
            refusedText(function, "3;u1;x", IllegalArgumentException.class, 9);
            refusedText(function, "3" + ";r".repeat(13), IllegalStateException.class, -1);
            refusedText(function, "3" + ";r".repeat(14) + ";", IllegalArgumentException.class, 34);
        }
    }

    /** The rest stands behind the text that has been begun; all but the text stays as it was. */
    private static void refusedText(int function, String rest, Class<? extends RuntimeException> due, int fault) {
        ConventionInference x = rich();
        Check.write(x, rest);
        Check.fails("setBody(" + function + ")", due, () -> x.setBody(function));
        Check.same("faultPosition()", x.faultPosition(), fault);
        Check.same("the text is empty", x.appendCharacter('r'), 1);
        Check.same("all but the text", Readout.ofAllButText(x), Readout.ofAllButText(rich()));
    }

    private static void order() {
        Check.sentence(0, "If a method can throw several exceptions, they are checked in the order in which they are listed.");
        Check.fails("appendCharacter", IllegalArgumentException.class, () -> full().appendCharacter(127));
        Check.fails("appendCharacter", IllegalArgumentException.class, () -> full().appendCharacter(32));
        Check.fails("setBody of a fault", IndexOutOfBoundsException.class, () -> rich().setBody(8));
        Check.fails("setBody of a full text", IndexOutOfBoundsException.class, () -> full().setBody(-1));
        ConventionInference fifteen = new ConventionInference();
        Check.write(fifteen, "r" + ";r".repeat(14));
        Check.fails("setBody of 15", IndexOutOfBoundsException.class, () -> fifteen.setBody(8));
        Check.write(fifteen, ";");
        Check.fails("setBody of 15 and a fault", IllegalArgumentException.class, () -> fifteen.setBody(0));
        ConventionInference x = Check.program("u0;r;r");
        x.removeInstruction(0, 2);
        Check.fails("operand of a return that is gone", IndexOutOfBoundsException.class, () -> x.operand(0, 2));
        Check.fails("liveBefore of what is gone", IndexOutOfBoundsException.class, () -> x.liveBefore(0, 2));
        Check.fails("site", IndexOutOfBoundsException.class, () -> x.site(0, 3));
        Check.fails("site", IndexOutOfBoundsException.class, () -> x.site(-1, -1));
        Check.fails("votes", IndexOutOfBoundsException.class, () -> x.votes(8, 4));
        Check.fails("votes", IndexOutOfBoundsException.class, () -> x.votes(-1, -1));
        Check.fails("role", IndexOutOfBoundsException.class, () -> new ConventionInference().role(8));
        Check.fails("origin without a run", IndexOutOfBoundsException.class, () -> x.origin(8));
        Check.fails("origin of a cut run", IndexOutOfBoundsException.class, () -> cut().origin(-1));
        ConventionInference changed = cut();
        changed.removeInstruction(0, 0);
        Check.fails("observed of a cut run of other bodies", IllegalStateException.class, changed::observed);
        Check.fails("origin of a cut run of other bodies", IllegalStateException.class, () -> changed.origin(0));
    }
}
