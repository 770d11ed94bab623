/** The sentences of promises 10 to 12, and what the description says of preserved registers and sure definitions. */
final class PathSentences {
    private static final String SIX = "+0;+1;+2;+3;+4;+5";
    /** Moves 0, 1 and 2 round before the call, and back behind it. */
    private static final String ROUND = "+0;+1;+2;-1;-0;-2;c%d;+0;+1;+2;-0;-2;-1";

    private PathSentences() {
    }

    static void check() {
        popsFromNothing();
        sevenPushes();
        differentDepths();
        depthAtReturns();
        balanceOfFunctions();
        knownOnAllPaths();
        unknownAndCarried();
        callsMakeUnknown();
        preservedAtReturns();
        greatestSets();
        preservedOfFunctions();
        clobbered();
        surelyOnEachPath();
        smallestSets();
        surelyDefinedOfFunctions();
        sets();
    }

    private static void popsFromNothing() {
        Check.sentence(0, "A function is balanced if no path has a pop while the stack is empty,");
        Check.same("a pop at first", balanced("-0;+0"), false);
        Check.same("one pop too many", balanced("+0;-0;-0;+0"), false);
        Check.same("on one path", balanced("b1;r;-0;+0"), false);
        Check.same("on the other path", balanced("b2;-0;+0;r"), false);
        Check.same("the last of 14", balanced("u0" + ";u0".repeat(12) + ";-0"), false);
        Check.same("just enough", balanced("+0;-0"), true);
        Check.same("not reachable", balanced("r;-0;+0"), true);
        Check.same("not what is skipped", balanced("b2;r;-0;u0"), true);
        Check.same("the stack of the called one is another", balancedWith("+0;c1;-0", "-0"), true);
    }

    private static void sevenPushes() {
        Check.sentence(0, "or a push while it has 6 values,");
        Check.same("6", balanced(SIX + ";-0;-0;-0;-0;-0;-0"), true);
        Check.same("7", balanced(SIX + ";+6;-0;-0;-0;-0;-0;-0;-0"), false);
        Check.same("6 again behind a pop", balanced(SIX + ";-0;+0;-0;-0;-0;-0;-0;-0"), true);
        Check.same("7 in all, never 7 at once", balanced("+0;-0;" + SIX + ";-0;-0;-0;-0;-0;-0"), true);
        Check.same("the stack of the called one is another", balancedWith(SIX + ";c1;-0;-0;-0;-0;-0;-0", "+0;-0"), true);
    }

    private static void differentDepths() {
        Check.sentence(0, "and if all paths to the same instruction, and to the returns, have the same number of values on the"
                + " stack,");
        Check.same("a push on one path", balanced("b1;+0;u0"), false);
        Check.same("a pop on one path", balanced("+0;b1;-0;u0"), false);
        Check.same("a push and a pop on one path", balanced("b2;+0;-0;u0"), true);
        Check.same("a pop and a push on one path", balanced("+0;b2;-0;+0;u0;-0"), true);
        Check.same("two returns", balanced("+0;b2;-0;r;-0;r"), true);
        Check.same("two returns, one without its pop", balanced("+0;b2;-0;r;u0;r"), false);
        Check.same("not behind a return", balanced("r;b1;+0;u0"), true);
    }

    private static void depthAtReturns() {
        Check.sentence(0, "which is 0 at the returns.");
        Check.same("1 at the end", balanced("+0"), false);
        Check.same("1 at a return", balanced("+0;r;-0"), false);
        Check.same("1 at the end of 14", balanced("u0" + ";u0".repeat(12) + ";+0"), false);
        Check.same("1 at each of two returns", balanced("+0;b1;r;u0"), false);
        Check.same("6 at the end", balanced(SIX), false);
        Check.same("1 behind the end", balanced("+0;b9;-0"), false);
        Check.same("0 at the end", balanced("+0;-7"), true);
        Check.same("nothing at all", balanced(""), true);
    }

    private static boolean balanced(String text) {
        return balancedWith(text, "");
    }

    /** Asks the function that stands last, so that its number is not always 0. */
    private static boolean balancedWith(String text, String called) {
        ConventionInference x = Check.program("", called, "", "", "", "", "", text);
        return x.isBalanced(7);
    }

    private static void balanceOfFunctions() {
        Check.sentence(10, "Returns whether a function is balanced.", "Returns whether it is.");
        ConventionInference x = Check.program("+0", "+0;-0", "-0", "", "c0", "u0", "r", "+7");
        boolean[] due = {false, true, false, true, true, true, true, false};
        for (int function = 0; function < 8; function++) {
            Check.same("isBalanced(" + function + ")", x.isBalanced(function), due[function]);
        }
        x.removeInstruction(7, 0);
        Check.same("isBalanced(7) without its push", x.isBalanced(7), true);
        Ranges.functions(10, "isBalanced", x::isBalanced);
    }

    private static void knownOnAllPaths() {
        Check.sentence(0, "The value of a register or of a place of the stack is known as the initial value of register q if it"
                + " is this on all paths.");
        Check.same("a register on both paths", preserved("m10;b1;u0;m01"), 253);
        Check.same("a register on one path", preserved("b1;m10;m01"), 252);
        Check.same("a place on both paths", preserved("+1;b2;-0;+1;d1;-1"), 254);
        Check.same("another value on one path", preserved("+1;b2;-0;+2;d1;-1"), 252);
        Check.same("come back on the longer path only", preserved("m10;d0;b2;u0;m01;r"), 252);
        Check.same("lost on the longer path only", preserved("b2;u0;d0;r"), 254);
        Check.same("lost on one path", preserved("b2;d0;m00"), 254);
        Check.same("it is the same by two ways", preserved("m10;b1;m10;d0;m01"), 253);
        Check.same("the top place of 6", preserved("+0;+0;+0;+0;+0;+7;d7;-7;-0;-0;-0;-0;-0"), 255);
        Check.same("the lowest place of 6", preserved("+7;+0;+0;+0;+0;+0;d7;-0;-0;-0;-0;-0;-7"), 255);
    }

    private static void unknownAndCarried() {
        Check.sentence(0, "Writing by a definition makes the value unknown;");
        for (int register = 0; register < 8; register++) {
            Check.same("d" + register, preserved("d" + register), 255 & ~(1 << register));
        }
        Check.sentence(0, "moves, pushes and pops carry what is known;");
        Check.same("by a move and back", preserved("m70;d0;m07"), 127);
        Check.same("by a push and a pop", preserved("+0;d0;-0"), 255);
        Check.same("to another register and back", preserved("+0;-7;d0;+7;-0"), 127);
        for (int first = 0; first < 8; first++) {
            for (int second = 0; second < 8; second++) {
                String move = "m" + first + second;
                Check.same(move, preserved(move), first == second ? 255 : 255 & ~(1 << first));
            }
        }
        Check.same("what is unknown, too", preserved("d0;m10;+1;-2"), 248);
        Check.same("all six places", preserved(SIX + ";d0;d1;-5;-4;-3;-2;-1;-0"), 255);
        Check.same("in the wrong order", preserved("+0;+1;d0;-0;-1"), 252);
        Check.sentence(0, "d: definition of a register, which writes a new value to it.");
        Check.same("d7", preserved("d7"), 127);
        Check.sentence(0, "+: push of the value of a register on the stack.");
        Check.same("its value at the push", preserved("m10;+0;d0;-0"), 253);
        Check.sentence(0, "-: pop of the top value of the stack to a register, which writes it.");
        Check.same("the top one", preserved("+0;+1;-1;-0"), 255);
    }

    private static int preserved(String text) {
        return Check.program("", "", "", "", "", "", "", text).preserved(7);
    }

    private static void callsMakeUnknown() {
        Check.sentence(0, "a call makes the values of all registers unknown that the called function does not preserve.");
        ConventionInference x = Check.program("c1", "d0;d7", "+0;+7;c1;-7;-0", "m10;c1;m01", "m06;c1;m60", "c6", "-0", "c5;c7");
        Check.same("a call", x.preserved(0), 126);
        Check.same("kept on the stack", x.preserved(2), 255);
        Check.same("kept in another register", x.preserved(3), 125);
        Check.same("kept in a register that is lost", x.preserved(4), 255 & ~(1 | 64 | 128));
        Check.same("a call of an unbalanced one", x.preserved(5), 0);
        Check.same("a call of one that calls it", x.preserved(7), 0);
        Check.same("a call of an empty body", Check.program("c7").preserved(0), 255);
        Check.same("stack places stay", Check.program("+0;c1;-0", "-0").preserved(0), 1);
        Check.same("a call that is not reachable", Check.program("r;c1", "d0").preserved(0), 255);
    }

    private static void preservedAtReturns() {
        Check.sentence(0, "A function preserves a register if it is balanced,");
        Check.same("not balanced", preserved("+0"), 0);
        Check.same("not balanced", preserved("-0"), 0);
        Check.same("7 pushes", preserved(SIX + ";+6;-6;-5;-4;-3;-2;-1;-0"), 0);
        Check.same("6 pushes", preserved(SIX + ";-5;-4;-3;-2;-1;-0"), 255);
        Check.sentence(0, "and if the register is known to have its own initial value at all returns that can be reached.");
        Check.same("at the first return", preserved("b2;d0;r;r"), 254);
        Check.same("at the second return", preserved("b1;r;d0;r"), 254);
        Check.same("at each another one", preserved("b2;d0;r;d7"), 126);
        Check.same("not at returns that cannot be reached", preserved("r;d0;r"), 255);
        Check.same("another's initial value", preserved("m01"), 254);
        Check.same("lost for a while", preserved("+0;d0;-0;r"), 255);
    }

    private static void greatestSets() {
        Check.sentence(0, "This is meant as the greatest solution for all functions together: the preserved registers are the"
                + " greatest sets that agree with these rules.");
        Check.same("itself alone", Check.program("c0").preserved(0), 255);
        Check.same("two in a ring", Check.program("c1", "c0").preserved(0), 255);
        Check.same("itself and a definition", Check.program("c0;d3").preserved(0), 247);
        ConventionInference changed = Check.program("c0;d3");
        Check.same("before a change", changed.preserved(0), 247);
        changed.removeInstruction(0, 1);
        Check.same("behind a change", changed.preserved(0), 255);
        ConventionInference up = Check.program("c1", "c2", "c3", "c4", "c5", "c6", "c7", "c0;d4");
        ConventionInference down = Check.program("c7;d4", "c0", "c1", "c2", "c3", "c4", "c5", "c6");
        ConventionInference round = new ConventionInference();
        for (int function = 0; function < 7; function++) {
            Check.body(round, function, String.format(ROUND, function + 1));
        }
        Check.body(round, 7, "c0;d2");
        for (int function = 0; function < 8; function++) {
            Check.same("up the ring " + function, up.preserved(function), 239);
            Check.same("down the ring " + function, down.preserved(function), 239);
            Check.same("three moved round in the ring " + function, round.preserved(function), 248);
        }
        Check.same("moved round and back", Check.program(String.format(ROUND, 0)).preserved(0), 255);
        ConventionInference once = Check.program(String.format(ROUND, 1), "d2");
        Check.same("the one that was in the lost register", once.preserved(0), 254);
    }

    private static void preservedOfFunctions() {
        Check.sentence(11, "Returns the registers that a function preserves.", "Returns the set of registers.");
        ConventionInference x = Check.program("d0", "d1", "d2", "d3", "d4", "d5", "d6", "d7");
        for (int function = 0; function < 8; function++) {
            Check.same("preserved(" + function + ")", x.preserved(function), 255 & ~(1 << function));
        }
        Check.same("all", Check.program("").preserved(0), 255);
        Check.same("none", Check.program("d0;d1;d2;d3;d4;d5;d6;d7").preserved(0), 0);
        Ranges.functions(11, "preserved", x::preserved);
    }

    private static void clobbered() {
        Check.sentence(0, "The clobbered registers of a function are those that it does not preserve.");
        ConventionInference x = Check.program("d0;+1;d1;-1;d7");
        for (int register = 0; register < 8; register++) {
            boolean isPreserved = register != 0 && register != 7;
            Check.same("votes(" + register + ", 2)", x.votes(register, 2), isPreserved ? 0 : 1);
            Check.same("votes(" + register + ", 3)", x.votes(register, 3), isPreserved ? 1 : 0);
        }
    }

    private static void surelyOnEachPath() {
        Check.sentence(0, "A function surely defines a register if on each path from its beginning to a return the register is"
                + " written by a definition, a move or a pop, or there is a call of a function that surely defines it.");
        String[] texts = {"", "r", "d0", "d7", "m71", "m11", "+1;-7", "-3", "+0", "u0", "l0;s1", "r;d0", "d0;r", "b1;d0",
            "b2;d0;r;d0", "b2;d0;r;m01", "b2;d0;r;d1", "b9;d0", "d0;b1;d1;d2", "c1", "b1;c1", "b2;c1;r;d6", "c1;d0",
            "b2;c1;r;c1", "+4;d4;-4", "d0;d1;d2;d3;d4;d5;d6;d7"};
        int[] sets = {0, 0, 1, 128, 128, 2, 128, 8, 0, 0, 0, 0, 1, 0,
            1, 1, 0, 0, 5, 192, 0, 64, 193,
            192, 16, 255};
        for (int i = 0; i < texts.length; i++) {
            Check.same("surelyDefined of " + texts[i], Check.program(texts[i], "d6;m76;b1;d5").surelyDefined(0), sets[i]);
        }
        Check.same("a call of an empty body", Check.program("c1").surelyDefined(0), 0);
        for (int first = 0; first < 8; first++) {
            for (int second = 0; second < 8; second++) {
                String move = "m" + first + second;
                Check.same(move, Check.program(move).surelyDefined(0), 1 << first);
            }
        }
        Check.same("an unbalanced one", Check.program("c1", "d2;-0").surelyDefined(0), 5);
    }

    private static void smallestSets() {
        Check.sentence(0, "This is meant as the least solution: the surely defined registers are the smallest sets that agree"
                + " with this rule.");
        Check.same("itself alone", Check.program("c0").surelyDefined(0), 0);
        Check.same("two in a ring", Check.program("c1", "c0").surelyDefined(0), 0);
        Check.same("itself or a definition", Check.program("b2;c0;r;d3").surelyDefined(0), 0);
        Check.same("itself and a definition", Check.program("c0;d3").surelyDefined(0), 8);
        ConventionInference changed = Check.program("c0;d3");
        Check.same("before a change", changed.surelyDefined(0), 8);
        changed.removeInstruction(0, 1);
        Check.same("behind a change", changed.surelyDefined(0), 0);
        ConventionInference up = Check.program("c1", "c2", "c3", "c4", "c5", "c6", "c7", "c0;d4");
        ConventionInference down = Check.program("c7;d4", "c0", "c1", "c2", "c3", "c4", "c5", "c6");
        for (int function = 0; function < 8; function++) {
            Check.same("up the ring " + function, up.surelyDefined(function), 16);
            Check.same("down the ring " + function, down.surelyDefined(function), 16);
        }
    }

    private static void surelyDefinedOfFunctions() {
        Check.sentence(12, "Returns the registers that a function surely defines.", "Returns the set of registers.");
        ConventionInference x = Check.program("d0", "d1", "d2", "d3", "d4", "d5", "d6", "d7");
        for (int function = 0; function < 8; function++) {
            Check.same("surelyDefined(" + function + ")", x.surelyDefined(function), 1 << function);
        }
        Check.same("none", Check.program("").surelyDefined(0), 0);
        Check.same("all", Check.program("d0;d1;d2;d3;d4;d5;d6;d7").surelyDefined(0), 255);
        Ranges.functions(12, "surelyDefined", x::surelyDefined);
    }

    private static void sets() {
        Check.sentence(0, "Sets of registers, slots and functions are ints, bit k for the element with number k.");
        Check.same("register 0", Check.program("d0").surelyDefined(0), 1);
        Check.same("register 7", Check.program("d7").surelyDefined(0), 128);
        Check.same("slot 0", Check.program("s0;c1").passedSlots(0), 1);
        Check.same("slot 3", Check.program("s3;c1").passedSlots(0), 8);
        Check.same("function 0", Check.program("c0").callees(0), 1);
        Check.same("function 7", Check.program("c7").callees(0), 128);
    }
}
