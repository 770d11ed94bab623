/** The sentences of promises 5 to 9, and what the description says of branches and of the end of a body. */
final class BodySentences {
    private static final String ALL = "u1;d2;m34;+5;-6;c7;l0;s3;b9;r;m70;m07;m00;m77";

    private BodySentences() {
    }

    static void check() {
        lengths();
        characters();
        operands();
        operandOfReturn();
        removing();
        laterNumbers();
        reachable();
        branches();
        ends();
        callsComeBack();
    }

    private static void lengths() {
        Check.sentence(5, "Returns the number of instructions of a body.", "Returns 0 to 14.");
        ConventionInference x = Check.program("", "r", "r" + ";r".repeat(12), ALL);
        Check.same("none", x.length(0), 0);
        Check.same("one", x.length(1), 1);
        Check.same("13", x.length(2), 13);
        Check.same("14", x.length(3), 14);
        Check.fails("15", IllegalStateException.class, () -> Check.body(x, 3, "r" + ";r".repeat(14)));
        Check.same("14 still", x.length(3), 14);
        Check.body(x, 3, "");
        Check.same("none again", x.length(3), 0);
        ConventionInference all = Ranges.inAll("r");
        Ranges.functions(5, "length", all::length);
    }

    private static void characters() {
        Check.sentence(6, "Returns the character of an instruction.", "Returns the character.");
        ConventionInference x = Check.program(ALL, "", "", "", "", "", "", ALL);
        String kinds = "udm+-clsbrmmmm";
        for (int index = 0; index < 14; index++) {
            Check.same("instruction(0, " + index + ")", x.instruction(0, index), kinds.charAt(index));
            Check.same("instruction(7, " + index + ")", x.instruction(7, index), kinds.charAt(index));
        }
        Ranges.instructions(6, "instruction", ConventionInference::instruction);
    }

    private static void operands() {
        Check.sentence(7, "Returns the operand of an instruction.", "Returns the number behind the character;");
        for (char kind : "ud+-c".toCharArray()) {
            Check.same(kind + "0", Check.program(kind + "0").operand(0, 0), 0);
            Check.same(kind + "7", Check.program(kind + "7").operand(0, 0), 7);
        }
        for (char kind : "ls".toCharArray()) {
            Check.same(kind + "0", Check.program(kind + "0").operand(0, 0), 0);
            Check.same(kind + "3", Check.program(kind + "3").operand(0, 0), 3);
        }
        Check.same("b1", Check.program("b1").operand(0, 0), 1);
        Check.same("b9", Check.program("b9").operand(0, 0), 9);
        Check.sentence(7, "for a move 10 times the first register plus the second one.");
        for (int first = 0; first < 8; first++) {
            for (int second = 0; second < 8; second++) {
                String move = "m" + first + second;
                Check.same(move, Check.program("r;" + move).operand(0, 1), 10 * first + second);
            }
        }
        Ranges.instructions(7, "operand", ConventionInference::operand);
    }

    private static void operandOfReturn() {
        Check.sentence(7, "Throws `UnsupportedOperationException` if the instruction is a return");
        ConventionInference x = Check.program("r", "u0;r", "r;u4", "r" + ";r".repeat(13));
        Check.fails("r", UnsupportedOperationException.class, () -> x.operand(0, 0));
        Check.fails("at the end", UnsupportedOperationException.class, () -> x.operand(1, 1));
        Check.fails("at the beginning", UnsupportedOperationException.class, () -> x.operand(2, 0));
        Check.same("behind a return", x.operand(2, 1), 4);
        Check.fails("the last of 14", UnsupportedOperationException.class, () -> x.operand(3, 13));
        x.removeInstruction(1, 1);
        Check.fails("a return that was removed", IndexOutOfBoundsException.class, () -> x.operand(1, 1));
    }

    private static void removing() {
        Check.sentence(8, "Removes an instruction.", "Returns the number of instructions that remain.");
        ConventionInference x = Check.program("u0" + ";u0".repeat(13), "u1");
        for (int remain = 13; remain >= 0; remain--) {
            int index = remain % 2 == 0 ? 0 : remain;
            Check.same("removeInstruction(0, " + index + ")", x.removeInstruction(0, index), remain);
            Check.same("length", x.length(0), remain);
        }
        Check.fails("from an empty body", IndexOutOfBoundsException.class, () -> x.removeInstruction(0, 0));
        Check.same("the other body", x.length(1), 1);
        Check.same("a new body", Check.body(x, 0, "u0" + ";u0".repeat(13)), 14);
        Ranges.instructions(8, "removeInstruction", ConventionInference::removeInstruction);
    }

    private static void laterNumbers() {
        Check.sentence(8, "The numbers of the later instructions of the body decrease by 1;");
        String tail = ";u0;d1;m23;+4;-5;c6;l1;s2;b3;r;u7;d0;m11";
        for (int index = 0; index < 14; index++) {
            ConventionInference before = Check.program("b4" + tail, "u1", "u2");
            ConventionInference x = Check.program("b4" + tail, "u1", "u2");
            x.removeInstruction(0, index);
            for (int i = 0; i < 13; i++) {
                int old = i < index ? i : i + 1;
                Check.same("instruction " + i, x.instruction(0, i), before.instruction(0, old));
                if (before.instruction(0, old) != 'r') {
                    Check.same("operand " + i, x.operand(0, i), before.operand(0, old));
                }
            }
            Check.same("the next body", x.operand(1, 0), 1);
        }
        Check.sentence(8, "the numbers of branches stay.");
        ConventionInference x = Check.program("b2;u0;u1;r;d5");
        x.removeInstruction(0, 1);
        Check.same("operand", x.operand(0, 0), 2);
        Check.same("it goes to the definition now", x.run(0, 1), 2);
        Check.same("it goes to the definition now", x.observed(), 223);
        x.removeInstruction(0, 1);
        Check.same("it goes to the end now", x.run(0, 1), 1);
        x.removeInstruction(0, 1);
        Check.same("it goes behind the end now", x.run(0, 1), 1);
        Check.same("operand", x.operand(0, 0), 2);
    }

    private static void reachable() {
        Check.sentence(9, "Returns whether an instruction is reachable.", "Returns whether it is.");
        Check.same("the first", reachableOf("u0"), "1");
        Check.same("a return alone", reachableOf("r"), "1");
        Check.same("behind a return", reachableOf("r;r;u0"), "100");
        Check.same("all of 14", reachableOf("u0" + ";u0".repeat(12) + ";r"), "1".repeat(14));
        Check.same("none behind the first of 14", reachableOf("r" + ";u0".repeat(13)), "1" + "0".repeat(13));
        Ranges.instructions(9, "isReachable", ConventionInference::isReachable);
        Check.sentence(0, "The reachable instructions of a body are those that execution can come to from the first one,"
                + " whichever way is chosen at branches;");
        Check.same("both ways", reachableOf("b2;u0;r;u0;r;u0"), "111110");
        Check.same("a branch that is not reachable", reachableOf("r;b1;u0;u0"), "1000");
        Check.same("a branch behind a branch", reachableOf("b1;r;b1;r;u0;r;u0"), "1111110");
        Check.same("not what is skipped", reachableOf("b3;r;u0;u0;u0"), "11001");
        Check.sentence(0, "A path is a sequence of instructions from the first one that follow one another so.");
        Check.same("on one path only", Check.program("b2;d0;r;d0;d1").surelyDefined(0), 1);
        Check.same("not from the second one", Check.program("r;-0").isBalanced(0), true);
    }

    private static String reachableOf(String text) {
        ConventionInference x = Check.program(text);
        StringBuilder all = new StringBuilder();
        for (int index = 0; index < x.length(0); index++) {
            all.append(x.isReachable(0, index) ? '1' : '0');
        }
        return all.toString();
    }

    private static void branches() {
        Check.sentence(0, "b: branch with a number n, after which execution goes on with the next instruction, or with the one"
                + " that is n instructions behind that, whichever is chosen.");
        for (int number = 1; number <= 9; number++) {
            // Behind the branch a return, then a target for each number.
            String text = "b" + number + ";r;d0;r;d1;r;d2;r;d3;r;d4;r";
            ConventionInference x = Check.program(text);
            Check.same("the next of b" + number, x.run(0, 0), 2);
            boolean isDefinition = number % 2 == 1;
            Check.same("the other of b" + number, x.run(0, 1), isDefinition ? 3 : 2);
            Check.same("the other of b" + number, x.observed(), isDefinition ? 255 & ~(1 << number / 2) : 255);
            for (int index = 2; index < 12; index++) {
                boolean due = index == number + 1 || isDefinition && index == number + 2;
                Check.same("isReachable(0, " + index + ") of b" + number, x.isReachable(0, index), due);
            }
        }
    }

    private static void ends() {
        Check.sentence(0, "At the end of the body, or behind it, the function returns, too.");
        for (int number = 1; number <= 9; number++) {
            ConventionInference x = Check.program("d1;b" + number + ";d0");
            Check.same("run with b" + number, x.run(0, 1), 2);
            Check.same("isCut", x.isCut(), false);
            Check.same("observed", x.observed(), 253);
            Check.same("surelyDefined", x.surelyDefined(0), 2);
            Check.same("preserved", x.preserved(0), 252);
            Check.same("isBalanced", Check.program("+0;b" + number + ";-0").isBalanced(0), false);
            Check.same("results at the end", Check.program("c1;u1", "d1;b" + number + ";d0").liveBefore(1, 1), 2);
        }
        ConventionInference last = Check.program("u0" + ";u0".repeat(12) + ";b9");
        Check.same("a branch as the last of 14", last.run(0, -1), 14);
        Check.same("a branch as the last of 14", last.run(0, 0), 14);
        Check.same("a branch as the last of 14", last.isCut(), false);
        Check.same("a branch as the last of 14", last.isBalanced(0), true);
        Check.same("no return", Check.program("d0").preserved(0), 254);
        Check.sentence(0, "r: return.");
        Check.same("a return", Check.program("d0;r;d1").preserved(0), 254);
        Check.same("a return", Check.program("d0;r;d1").run(0, 0), 2);
    }

    private static void callsComeBack() {
        Check.sentence(0, "calls always come back.");
        ConventionInference x = Check.program("c0;u1", "c2;u1", "-0;r", "c4;u1", "");
        Check.same("a call of itself", x.isReachable(0, 1), true);
        Check.same("a call of a pop from nothing", x.isReachable(1, 1), true);
        Check.same("a call of nothing", x.isReachable(3, 1), true);
        Check.same("arguments behind a call of itself", x.arguments(0), 2);
        Check.sentence(0, "c: call of a function.");
        Check.same("run", Check.program("c7", "", "", "", "", "", "", "u0").run(0, 0), 2);
    }
}
