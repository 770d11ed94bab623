import java.util.NoSuchElementException;

/** The sentences of promises 31 to 34, and what the description says of runs. */
final class RunSentences {
    private static final String SIX = "+0;+1;+2;+3;+4;+5";
    private static final String SEVEN_BRANCHES = "b1;d0;b1;d1;b1;d2;b1;d3;b1;d4;b1;d5;b1;d6";

    private RunSentences() {
    }

    static void check() {
        steps();
        latestResults();
        initialValues();
        newValues();
        choices();
        anyChoices();
        popCut();
        pushCut();
        callCut();
        instructionCut();
        counting();
        isCut();
        observed();
        origin();
        noRun();
        cutRun();
    }

    private static void steps() {
        Check.sentence(31, "Returns the number of executed instructions.");
        Check.same("none", new ConventionInference().run(7, 0), 0);
        Check.same("14", Check.program("u0;d1;m23;+4;-5;l0;s1;b1;u0;u1;u2;u3;u4;r").run(0, 0), 14);
        Check.same("13 by a branch", Check.program("u0;d1;m23;+4;-5;l0;s1;b1;u0;u1;u2;u3;u4;r").run(0, 1), 13);
        ConventionInference x = Check.program("u0", "u0;u0", "", "", "", "", "", "u0;u0;u0");
        Check.same("of function 7", x.run(7, 0), 3);
        Ranges.functions(31, "run", function -> x.run(function, 0));
    }

    private static void latestResults() {
        Check.sentence(31, "Makes a run, and keeps its results in place of earlier ones.");
        ConventionInference x = Check.program("d0;d1;+2", "-0", "m34");
        Check.same("run(0)", x.run(0, 0), 3);
        Check.same("observed", x.observed(), 252);
        Check.same("run(1)", x.run(1, 0), 0);
        Check.same("cut in place of a return", x.isCut(), true);
        Check.same("run(2)", x.run(2, 0), 1);
        Check.same("a return in place of a cut", x.isCut(), false);
        Check.same("observed", x.observed(), 247);
        Check.same("origin", x.origin(3), 4);
        Check.fails("no function", IndexOutOfBoundsException.class, () -> x.run(8, 0));
        Check.same("kept behind a refused run", x.observed(), 247);
        x.save();
        Check.write(x, "x");
        Check.fails("a fault", IllegalArgumentException.class, () -> x.setBody(0));
        Check.same("kept behind save and a refused body", x.observed(), 247);
    }

    private static void initialValues() {
        Check.sentence(0, "A run executes a function with eight different initial values in the registers;");
        ConventionInference x = Check.program("", "m01;m12;m23;m34;m45;m56;m67;d7");
        x.run(0, 0);
        for (int register = 0; register < 8; register++) {
            Check.same("origin(" + register + ")", x.origin(register), register);
        }
        x.run(1, 0);
        for (int register = 0; register < 7; register++) {
            Check.same("origin(" + register + ") behind moves", x.origin(register), register + 1);
        }
        x.run(1, 0);
        Check.same("each run has its own", x.origin(0), 1);
        x.run(0, 0);
        Check.same("each run has its own", x.observed(), 255);
    }

    private static void newValues() {
        Check.sentence(0, "each definition writes a value that no register or stack has had before.");
        ConventionInference x = Check.program("d0;d1;d2;d3;d4;d5;d6;d7", "c0" + ";c0".repeat(13), "c1;c1");
        for (int function = 0; function < 3; function++) {
            x.run(function, 0);
            Check.same("observed behind 8, 112 and 224 definitions", x.observed(), 0);
        }
        for (int register = 0; register < 8; register++) {
            int one = register;
            Check.fails("origin(" + register + ")", NoSuchElementException.class, () -> x.origin(one));
        }
    }

    private static void choices() {
        Check.sentence(0, "At the k-th executed branch, counted from 0, of the whole run, execution goes on with the next"
                + " instruction if bit k modulo 32 of the choices is 0.");
        ConventionInference x = Check.program("c1;c1;c1;c1;c1;c1;c1;c1;c1;c1;c2", SEVEN_BRANCHES, "b1;d7;b1;d7");
        // 72 branches in all: bit k decides k, k + 32 and k + 64.
        Check.same("no bit", x.run(0, 0), 11 + 140 + 4);
        Check.same("no bit", x.observed(), 0);
        Check.same("all bits", x.run(0, -1), 11 + 70 + 2);
        Check.same("all bits", x.observed(), 255);
        for (int bit = 0; bit < 32; bit++) {
            int defined = 0;
            int count = 0;
            for (int branch = bit; branch < 72; branch += 32) {
                defined |= 1 << (branch >= 70 ? 7 : branch % 7);
                count++;
            }
            Check.same("all but bit " + bit, x.run(0, ~(1 << bit)), 11 + 70 + 2 + count);
            Check.same("all but bit " + bit, x.observed(), 255 & ~defined);
            Check.same("only bit " + bit, x.run(0, 1 << bit), 11 + 140 + 4 - count);
        }
        ConventionInference skipped = Check.program("b1;b1;b1;d0;d1");
        Check.same("a branch that is skipped is not counted", skipped.run(0, 3), 3);
        Check.same("a branch that is skipped is not counted", skipped.observed(), 253);
        Check.same("each run counts anew", skipped.run(0, 3), 3);
    }

    private static void anyChoices() {
        Check.sentence(31, "- `choices`: the choices at branches, any number");
        ConventionInference x = Check.program("c1;c1;c1;c1;c1;b1;d7", SEVEN_BRANCHES);
        Check.same("0", x.run(0, 0), 77);
        Check.same("1", x.run(0, 1), 75);
        Check.same("-1", x.run(0, -1), 41);
        Check.same("-2", x.run(0, -2), 43);
        Check.same("the smallest", x.run(0, Integer.MIN_VALUE), 76);
        Check.same("the smallest", x.isCut(), false);
        Check.same("the largest", x.run(0, Integer.MAX_VALUE), 42);
        Check.same("the largest", x.observed(), 255 & ~8);
        Check.same("the smallest without a branch", Check.program("u0").run(0, Integer.MIN_VALUE), 1);
        Check.same("the largest without a body", new ConventionInference().run(0, Integer.MAX_VALUE), 0);
    }

    private static void popCut() {
        Check.sentence(0, "before a pop while the stack is empty,");
        runs("-0", 0, true);
        runs("+0;-0;-0", 2, true);
        runs("+0;-0", 2, false);
        runs("b1;-0;u0", 1, true);
        Check.same("the pop is skipped", Check.program("b1;-0;u0").run(0, 1), 2);
        runs(SIX + ";-0;-0;-0;-0;-0;-0;-0", 12, true);
        ConventionInference x = Check.program("+0;c1;-0", "d1;-0");
        Check.same("of a called one, with values of the caller", x.run(0, 0), 3);
        Check.same("of a called one, with values of the caller", x.isCut(), true);
        ConventionInference left = Check.program("c1;c2", "+0", "-1");
        Check.same("what an ended activation left is gone", left.run(0, 0), 3);
        Check.same("what an ended activation left is gone", left.isCut(), true);
        ConventionInference back = Check.program("c1;-0", "+0;+0");
        Check.same("what a called one left is not the caller's", back.run(0, 0), 3);
        Check.same("what a called one left is not the caller's", back.isCut(), true);
    }

    private static void pushCut() {
        Check.sentence(0, "before a push while the stack of the activation has 6 values,");
        runs(SIX, 6, false);
        runs(SIX + ";+6", 6, true);
        runs(SIX + ";-0;+0;u0", 9, false);
        runs(SIX + ";-0;+0;+0", 8, true);
        ConventionInference x = Check.program(SIX + ";c1;-7;-6;d5;d4", SIX + ";c2", SIX + ";m00");
        Check.same("6 in each of three activations", x.run(0, 0), 25);
        Check.same("6 in each of three activations", x.isCut(), false);
        Check.same("the caller's stay", x.origin(7), 5);
        Check.same("the caller's stay", x.origin(6), 4);
        ConventionInference seventh = Check.program(SIX + ";c1", SIX + ";+0");
        Check.same("the 7th of a called one", seventh.run(0, 0), 13);
        Check.same("the 7th of a called one", seventh.isCut(), true);
    }

    private static void runs(String text, int steps, boolean cut) {
        ConventionInference x = Check.program("", "", "", "", "", "", "", text);
        Check.same("run of " + text, x.run(7, 0), steps);
        Check.same("isCut of " + text, x.isCut(), cut);
    }

    private static void callCut() {
        Check.sentence(0, "before a call while 8 activations are open,");
        ConventionInference x = Check.program("c1", "c2", "c3", "c4", "c5", "c6", "c7", "");
        Check.same("8 open", x.run(0, 0), 7);
        Check.same("8 open", x.isCut(), false);
        Check.body(x, 7, "u0;c0");
        Check.same("a call of the 9th", x.run(0, 0), 8);
        Check.same("a call of the 9th", x.isCut(), true);
        Check.same("one less, which calls on", x.run(1, 0), 8);
        Check.same("one less, which calls on", x.isCut(), true);
        Check.body(x, 7, "c6");
        Check.same("a ring of two at the end", x.run(0, 0), 7);
        Check.same("a ring of two at the end", x.isCut(), true);
        Check.same("itself", Check.program("c0").run(0, 0), 7);
        ConventionInference empty = Check.program("c0", "c2", "c3", "c4", "c5", "c6", "c7", "c0");
        Check.body(empty, 0, "");
        Check.same("of an empty body as the 8th", empty.run(1, 0), 7);
        Check.same("of an empty body as the 8th", empty.isCut(), false);
        ConventionInference twice = Check.program("c1", "c2", "c3", "c4", "c5", "c6", "b1;c6;c7", "");
        Check.same("of an empty body as the 9th", twice.run(0, 2), 9);
        Check.same("of an empty body as the 9th", twice.isCut(), true);
        Check.same("of an empty body as the 8th, twice", twice.run(1, 2), 10);
        Check.same("of an empty body as the 8th, twice", twice.isCut(), false);
        ConventionInference many = Check.program("c1" + ";c1".repeat(13), "c2;c2;c2", "");
        Check.same("closed ones do not count", many.run(0, 0), 14 + 14 * 3);
        Check.same("closed ones do not count", many.isCut(), false);
    }

    /** A call of 0, 1, 2 or 3 executes 2, 11, 111 or 223 instructions with itself. */
    private static ConventionInference threeHundred(String six) {
        return Check.program("u0", "u0" + ";u0".repeat(9), "c1" + ";c1".repeat(9), "c2;c2", "", "c6", six, "c6;u0");
    }

    private static void instructionCut() {
        Check.sentence(0, "or before any instruction when 300 instructions have been executed;");
        String just = "c3;c1;c1;c1;c1;c1;c1;c1";
        ends("300 of 300", just, 6, 300, false);
        ends("300 and a use", just + ";u0", 6, 300, true);
        ends("300 and a return", just + ";r", 6, 300, true);
        ends("300 and a branch", just + ";b9", 6, 300, true);
        ends("300 and a call of an empty body", just + ";c4", 6, 300, true);
        ends("300 and a pop from nothing", just + ";-0", 6, 300, true);
        ends("one call before 300", just, 5, 300, true);
        ends("one call before 300 and a use behind", just, 7, 300, true);
        String to299 = "c3;c1;c1;c1;c1;c1;c1;c0;c0;c0;c0;c0";
        ends("299", to299, 6, 299, false);
        ends("one call before 299", to299, 5, 300, false);
        ends("one call before 299 and a use behind", to299, 7, 300, true);
        ends("the 300th is a use", to299 + ";u0", 6, 300, false);
        ends("the 300th is a return", to299 + ";r;u0", 6, 300, false);
        ends("the 300th is a branch to the end", to299 + ";b9", 6, 300, false);
        ends("the 300th is a use, then a return", to299 + ";u0;r", 6, 300, true);
        ends("the 300th would be a pop from nothing", to299 + ";-0", 6, 299, true);
        ConventionInference x = Check.program("c1", "c2" + ";c2".repeat(12) + ";r", "c3;c3;c3;c3", "c4;c4;c4;c4", "");
        Check.same("1 + 13 * (1 + 4 * 5) + 1", x.run(0, 0), 1 + 13 * 21 + 1);
        Check.same("ends of many bodies", x.isCut(), false);
        ConventionInference calls = Check.program("c5;c6;c6;c6;c6;c6;c4;c7;c7;c7;c7;c7;c7", "", "", "",
            "c7" + ";c7".repeat(6), "c6" + ";c6".repeat(13), "c7" + ";c7".repeat(13), "");
        Check.same("300 calls", calls.run(0, 0), 300);
        Check.same("300 calls", calls.isCut(), false);
        ConventionInference most = Check.program("c1" + ";c1".repeat(13), "c2" + ";c2".repeat(13), "c3;c3;c3", "");
        Check.same("far more than 300", most.run(0, 0), 300);
        Check.same("far more than 300", most.isCut(), true);
    }

    private static void ends(String name, String six, int function, int steps, boolean cut) {
        ConventionInference x = threeHundred(six);
        Check.same("run, " + name, x.run(function, 0), steps);
        Check.same("isCut, " + name, x.isCut(), cut);
    }

    private static void counting() {
        Check.sentence(0, "a call counts before the body of the called function,");
        ConventionInference x = Check.program("c1", "-0", "c3", "");
        Check.same("a call and nothing of the body", x.run(0, 0), 1);
        Check.same("a call of an empty body", x.run(2, 0), 1);
        String to299 = "c3;c1;c1;c1;c1;c1;c1;c0;c0;c0;c0;c0";
        ends("the 300th is a call", to299 + ";c0", 6, 300, true);
        ends("the 300th is a call of an empty body", to299 + ";c4", 6, 300, false);
        Check.sentence(0, "and a return at the end of a body does not count.");
        Check.same("the end", Check.program("u0").run(0, 0), 1);
        Check.same("a return", Check.program("u0;r").run(0, 0), 2);
        Check.same("behind the end", Check.program("b9").run(0, 1), 1);
        Check.same("the end of a called one", Check.program("c1;u0", "u0").run(0, 0), 3);
        Check.same("a return of a called one", Check.program("c1;u0", "r").run(0, 0), 3);
        Check.sentence(0, "The run ends when the function returns, or is cut:");
        Check.same("nothing behind a return", Check.program("r;-0").run(0, 0), 1);
        ConventionInference returned = Check.program("c1;d1", "r;d0");
        Check.same("a return of a called one does not end the run", returned.run(0, 0), 3);
        Check.same("a return of a called one does not end the run", returned.observed(), 253);
    }

    private static void isCut() {
        Check.sentence(32, "Returns whether the latest run was cut.", "Returns whether it was.");
        ConventionInference x = Check.program("-0", "u0");
        x.run(0, 0);
        Check.same("cut", x.isCut(), true);
        Check.same("cut still", x.isCut(), true);
        x.run(1, 0);
        Check.same("not cut", x.isCut(), false);
        x.run(0, 0);
        Check.same("cut again", x.isCut(), true);
    }

    private static void observed() {
        Check.sentence(33, "Returns the registers that have their own initial values at the end of the latest run.",
                "Returns the set of registers.");
        ConventionInference x = Check.program("", "d0;d1;d2;d3;d4;d5;d6;d7", "m07", "+0;d0;-0", "+0;+7;-0;-7", "d7");
        int[] due = {255, 0, 254, 255, 126, 127};
        for (int function = 0; function < due.length; function++) {
            x.run(function, 0);
            Check.same("observed() of " + function, x.observed(), due[function]);
        }
    }

    private static void origin() {
        Check.sentence(34, "Returns the register whose initial value a register has at the end of the latest run.",
                "Returns the other register.");
        for (int first = 0; first < 8; first++) {
            for (int second = 0; second < 8; second++) {
                ConventionInference moved = Check.program("m" + first + second);
                moved.run(0, 0);
                Check.same("origin behind m" + first + second, moved.origin(first), second);
            }
        }
        ConventionInference x = Check.program("m07", "m70", "+0;d0;-7", "");
        x.run(0, 0);
        Check.same("origin(0)", x.origin(0), 7);
        Check.same("origin(7)", x.origin(7), 7);
        x.run(1, 0);
        Check.same("origin(7)", x.origin(7), 0);
        x.run(2, 0);
        Check.same("origin(7) by the stack", x.origin(7), 0);
        x.run(3, 0);
        Ranges.registers(34, "origin", x::origin);
        Check.sentence(34, "Throws `NoSuchElementException` if the run was cut, or the value is not an initial one");
        ConventionInference defined = Check.program("d0;m70;+0;-3", "u0;-0");
        defined.run(0, 0);
        for (int register : new int[] {0, 3, 7}) {
            Check.fails("not an initial one " + register, NoSuchElementException.class, () -> defined.origin(register));
        }
        Check.same("an initial one", defined.origin(1), 1);
        defined.run(1, 0);
        for (int register = 0; register < 8; register++) {
            int one = register;
            Check.fails("cut " + register, NoSuchElementException.class, () -> defined.origin(one));
        }
    }

    private static void noRun() {
        String words = "Throws `IllegalStateException` if there was no run since the latest successful call of setBody,"
                + " removeInstruction or restore";
        for (int promise = 32; promise <= 34; promise++) {
            Check.sentence(promise, words);
            ConventionInference x = new ConventionInference();
            refused("new", promise, x);
            x.run(0, 0);
            answered("behind a run", promise, x);
            Check.body(x, 0, "u0");
            refused("behind setBody", promise, x);
            x.run(0, 0);
            Check.body(x, 1, "");
            refused("behind setBody of an empty body", promise, x);
            x.run(0, 0);
            x.save();
            answered("behind save", promise, x);
            x.removeInstruction(0, 0);
            refused("behind removeInstruction", promise, x);
            x.run(0, 0);
            x.restore();
            refused("behind restore", promise, x);
            x.run(0, 0);
            Check.fails("a fault", IllegalArgumentException.class, () -> Check.body(x, 0, "x"));
            Check.fails("15", IllegalStateException.class, () -> Check.body(x, 0, "r" + ";r".repeat(14)));
            Check.fails("no function", IndexOutOfBoundsException.class, () -> x.setBody(8));
            Check.fails("no instruction", IndexOutOfBoundsException.class, () -> x.removeInstruction(0, 1));
            answered("behind refused calls", promise, x);
            ConventionInference unsaved = new ConventionInference();
            unsaved.run(0, 0);
            Check.fails("nothing was saved", IllegalStateException.class, unsaved::restore);
            answered("behind a refused restore", promise, unsaved);
        }
    }

    private static void refused(String when, int promise, ConventionInference x) {
        Check.fails(when, IllegalStateException.class, () -> ask(promise, x));
    }

    private static void answered(String when, int promise, ConventionInference x) {
        Check.answers(when, () -> ask(promise, x));
    }

    private static void ask(int promise, ConventionInference x) {
        if (promise == 32) {
            x.isCut();
        } else if (promise == 33) {
            x.observed();
        } else {
            x.origin(0);
        }
    }

    private static void cutRun() {
        Check.sentence(33, "Throws `NoSuchElementException` if the run was cut");
        ConventionInference x = Check.program("-0", SIX + ";+0", "c2", "c4" + ";c4".repeat(13), "c5" + ";c5".repeat(13),
            "u0;u0", "u0");
        for (int function = 0; function < 4; function++) {
            x.run(function, 0);
            Check.same("isCut " + function, x.isCut(), true);
            Check.fails("observed " + function, NoSuchElementException.class, x::observed);
        }
        x.run(6, 0);
        Check.same("not cut", x.observed(), 255);
    }
}
