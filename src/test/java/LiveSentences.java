/** The sentences of promises 13 to 15 and 26, and what the description says of arguments and results. */
final class LiveSentences {
    private LiveSentences() {
    }

    static void check() {
        reading();
        notWriting();
        following();
        calls();
        atReturns();
        arguments();
        results();
        leastSets();
        liveBefore();
        notReachable();
        liveBehind();
    }

    private static void reading() {
        Check.sentence(0, "A register is live before an instruction if the instruction reads it,");
        for (int register = 0; register < 8; register++) {
            Check.same("u" + register, before("u" + register), 1 << register);
            for (int first = 0; first < 8; first++) {
                Check.same("m" + first + register, before("m" + first + register), 1 << register);
            }
        }
        Check.same("nothing else reads", before("d0;-1;l2;s3;b1;r"), 0);
        Check.sentence(0, "u: use of a register, which reads it.");
        Check.same("u7", before("u7"), 128);
        Check.sentence(0, "m: move, which writes the value of a second register to a first register;");
        for (int first = 0; first < 8; first++) {
            for (int second = 0; second < 8; second++) {
                Check.same("m" + first + second, before("m" + first + second + ";u" + first), 1 << second);
            }
        }
        Check.sentence(0, "it reads the second one.");
        Check.same("the second is read", before("m12"), 4);
        Check.same("a move to itself", before("m66"), 64);
        Check.sentence(0, "A push does not read the register.");
        for (int register = 0; register < 8; register++) {
            Check.same("+" + register, before("+" + register), 0);
            Check.same("+" + register + ";-0", before("+" + register + ";-0"), 0);
        }
    }

    private static void notWriting() {
        Check.sentence(0, "or if it is live behind the instruction and the instruction does not write it;");
        String[] writing = {"d3", "m30", "-3"};
        for (String text : writing) {
            Check.same(text, before(text + ";u3"), text.equals("m30") ? 1 : 0);
            Check.same(text + " of another", before(text + ";u4"), text.equals("m30") ? 17 : 16);
        }
        for (String text : new String[] {"u3", "+3", "l3", "s3", "b3"}) {
            Check.same(text, before(text + ";u3"), 8);
        }
        Check.same("it is read and written", before("m33;u3"), 8);
        Check.same("it is read before", before("u3;d3;u3"), 8);
    }

    private static void following() {
        Check.sentence(0, "it is live behind an instruction if it is live before at least one instruction that can follow;");
        Check.same("both", before("b2;u1;r;u2"), 6);
        Check.same("the next only", before("b1;u1;d1"), 2);
        Check.same("the other only", before("b1;d1;u1"), 2);
        Check.same("written on both", before("b2;d1;r;d1;u1"), 0);
        Check.same("behind a return", before("r;u1"), 0);
        Check.same("at the 14th", before("u0" + ";u0".repeat(12) + ";u7"), 129);
        Check.same("skipped 9", before("b9;r;u1;u1;u1;u1;u1;u1;u1;u1;u2"), 4);
    }

    private static int before(String text) {
        ConventionInference x = Check.program("", "", "", "", "", "", "", text);
        int before = x.liveBefore(7, 0);
        Check.same("arguments of " + text, x.arguments(7), before);
        return before;
    }

    private static void calls() {
        Check.sentence(0, "a call reads the arguments of the called function and writes the registers that this function"
                + " clobbers.");
        ConventionInference x = Check.program("c1;u2;u3", "u0;u7;d2", "c3;u2;u3", "", "c5;u2", "-0", "+2;c6;u2", "c7;c1");
        Check.same("arguments and what is not clobbered", x.liveBefore(0, 0), 137);
        Check.same("an empty body", x.liveBefore(2, 0), 12);
        Check.same("an unbalanced one clobbers all", x.liveBefore(4, 0), 0);
        Check.same("an unbalanced one that calls itself", x.arguments(6), 0);
        Check.same("one that never comes back", x.arguments(7), 129);
        ConventionInference both = Check.program("c1;u0", "u0;d0");
        Check.same("an argument that is clobbered", both.arguments(0), 1);
    }

    private static void atReturns() {
        Check.sentence(0, "At a return exactly the results of the function are live.");
        ConventionInference x = Check.program("c1;u0;u1;u2", "d0;d1;b1;r;u4", "c3;u5", "d5;d6;b9;u0", "c5", "d0;r");
        Check.same("at a return", x.liveBefore(1, 3), 3);
        Check.same("at the end", x.liveBefore(1, 4), 19);
        Check.same("behind the end", x.liveBefore(3, 2), 33);
        Check.same("no results", x.liveBefore(5, 1), 0);
        Check.same("of a function that nobody calls", Check.program("d0;r").liveBefore(0, 1), 0);
        Check.same("a call as the last", x.liveBehind(2), 0);
        Check.same("a call as the last of one with results", Check.program("c1;u3", "d3;c2", "").liveBehind(1), 8);
    }

    private static void arguments() {
        Check.sentence(13, "Returns the arguments of a function.", "Returns the set of registers.");
        ConventionInference x = Check.program("u0", "u1", "u2", "u3", "u4", "u5", "u6", "u7");
        for (int function = 0; function < 8; function++) {
            Check.same("arguments(" + function + ")", x.arguments(function), 1 << function);
        }
        Check.same("all", Check.program("u0;u1;u2;u3;u4;u5;u6;u7").arguments(0), 255);
        Ranges.functions(13, "arguments", x::arguments);
        Check.sentence(0, "The arguments of a function are the registers that are live at its beginning.");
        Check.same("of an empty body", Check.program("").arguments(0), 0);
        Check.same("not live at its beginning", Check.program("d0;u0").arguments(0), 0);
        Check.same("of an empty body that is called", Check.program("c1;u0", "").arguments(1), 0);
    }

    private static void results() {
        Check.sentence(14, "Returns the results of a function.", "Returns the set of registers.");
        ConventionInference x = new ConventionInference();
        for (int function = 0; function < 8; function++) {
            Check.body(x, function, "c" + (function + 7) % 8 + ";u" + (function + 7) % 8 + ";d" + function);
        }
        for (int function = 0; function < 8; function++) {
            Check.same("results(" + function + ")", x.results(function), 1 << function);
        }
        String all = "d0;d1;d2;d3;d4;d5;d6;d7";
        Check.same("all", Check.program("c1;u0;u1;u2;u3;u4;u5;u6;u7", all).results(1), 255);
        Check.same("none", Check.program("c1", all).results(1), 0);
        Ranges.functions(14, "results", x::results);
        Check.sentence(0, "The results of a function are the registers that it clobbers and surely defines,");
        Check.same("both", Check.program("c1;u3", "d3").results(1), 8);
        Check.same("only surely defined", Check.program("c1;u3", "+3;d3;-3").results(1), 0);
        Check.same("only clobbered", Check.program("c1;u3", "b1;d3").results(1), 0);
        Check.same("of an unbalanced one", Check.program("c1;u3;u4", "d3;-0").results(1), 8);
        Check.same("neither", Check.program("c1;u3", "d4").results(1), 0);
        Check.sentence(0, "and that are live behind at least one reachable call of it.");
        Check.same("behind one of three", Check.program("c2;c2;u3;c2", "c2", "d3").results(2), 8);
        Check.same("behind the call of another function", Check.program("c2", "c2;u3", "d3").results(2), 8);
        Check.same("not behind a reachable one", Check.program("c1;r;c1;u3", "d3").results(1), 0);
        Check.same("not called", Check.program("u3", "d3").results(1), 0);
        Check.same("written behind each", Check.program("c1;d3;u3", "d3").results(1), 0);
        Check.same("by its own call", Check.program("b2;c0;u3;d3").results(0), 8);
    }

    private static void leastSets() {
        Check.sentence(0, "This is meant as the least solution for all functions together.");
        Check.same("arguments of itself alone", Check.program("c0").arguments(0), 0);
        Check.same("results of itself alone", Check.program("c0").results(0), 0);
        Check.same("results of itself and a definition", Check.program("d0;c0").results(0), 0);
        ConventionInference changed = Check.program("c0;u3", "c1;d4;c1;u4;d4");
        Check.same("arguments before a change", changed.arguments(0), 8);
        Check.same("results before a change", changed.results(1), 16);
        changed.removeInstruction(0, 1);
        changed.removeInstruction(1, 3);
        Check.same("arguments behind a change", changed.arguments(0), 0);
        Check.same("results behind a change", changed.results(1), 0);
        Check.body(changed, 0, "c0");
        Check.same("arguments behind another", changed.arguments(0), 0);
        Check.same("a result that goes on to a called one", Check.program("d0;r", "u5;c0", "c1;u0").liveBefore(0, 1), 1);
        ConventionInference ring = Check.program("d0;c1", "d0;c0");
        Check.same("results in a ring", ring.results(0) | ring.results(1), 0);
        ConventionInference up = Check.program("c1", "c2", "c3", "c4", "c5", "c6", "c7", "u6");
        ConventionInference down = Check.program("u6", "c0", "c1", "c2", "c3", "c4", "c5", "c6");
        for (int function = 0; function < 8; function++) {
            Check.same("arguments up " + function, up.arguments(function), 64);
            Check.same("arguments down " + function, down.arguments(function), 64);
        }
        ConventionInference from = Check.program("c1;u5", "c2", "c3", "c4", "c5", "c6", "c7", "d5");
        ConventionInference to = Check.program("d5", "c0", "c1", "c2", "c3", "c4", "c5", "c6;u5");
        for (int function = 1; function < 8; function++) {
            Check.same("results up " + function, from.results(function), 32);
            Check.same("results down " + (function - 1), to.results(function - 1), 32);
        }
        Check.same("results of the first", from.results(0), 0);
        Check.same("results of the last", to.results(7), 0);
    }

    private static void liveBefore() {
        Check.sentence(15, "Returns the registers that are live before an instruction.", "Returns the set of registers.");
        ConventionInference x = Check.program("u0;u1;u2;u3;u4;u5;u6;u7;r", "", "", "", "", "", "", "u7;d6;u6");
        for (int index = 0; index < 9; index++) {
            Check.same("liveBefore(0, " + index + ")", x.liveBefore(0, index), 255 >> index << index);
        }
        Check.same("liveBefore(7, 0)", x.liveBefore(7, 0), 128);
        Check.same("liveBefore(7, 1)", x.liveBefore(7, 1), 0);
        Check.same("liveBefore(7, 2)", x.liveBefore(7, 2), 64);
        Ranges.instructions(15, "liveBefore", ConventionInference::liveBefore);
    }

    private static void notReachable() {
        Check.sentence(15, "Throws `IllegalStateException` if the instruction is not reachable");
        ConventionInference x = Check.program("r;u0", "b2;r;u0;u1", "r" + ";u0".repeat(13));
        Check.same("the return", x.liveBefore(0, 0), 0);
        Check.fails("behind a return", IllegalStateException.class, () -> x.liveBefore(0, 1));
        Check.fails("skipped", IllegalStateException.class, () -> x.liveBefore(1, 2));
        Check.same("behind what is skipped", x.liveBefore(1, 3), 2);
        Check.fails("the last of 14", IllegalStateException.class, () -> x.liveBefore(2, 13));
        x.removeInstruction(0, 0);
        Check.same("reachable without the return", x.liveBefore(0, 0), 1);
    }

    private static void liveBehind() {
        Check.sentence(26, "Returns the registers that are live behind the call of a call site.", "Returns the set of registers.");
        ConventionInference x = Check.program("c1;u0;u7", "u3;d0", "c1;d0;u0", "", "", "", "", "b1;c1;c1;b1;u4;u5");
        Check.same("0", x.liveBehind(0), 129);
        Check.same("1", x.liveBehind(1), 0);
        Check.same("2", x.liveBehind(2), 8 | 16 | 32);
        Check.same("3", x.liveBehind(3), 48);
        Check.same("all", Check.program("c1;u0;u1;u2;u3;u4;u5;u6;u7").liveBehind(0), 255);
        Ranges.sites(26, "liveBehind", (y, site, none) -> y.liveBehind(site));
    }
}
