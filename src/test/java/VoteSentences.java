import java.util.NoSuchElementException;

/** The sentences of promises 29, 30 and 35, and what the description says of roles. */
final class VoteSentences {
    private VoteSentences() {
    }

    static void check() {
        votes();
        wrongKinds();
        countedFunctions();
        argumentRole();
        resultRole();
        scratchRole();
        savedRole();
        role();
        preservedShare();
    }

    private static void votes() {
        Check.sentence(29, "Returns a count of functions for a register, as defined for roles.", "Returns the number of functions.");
        Check.same("all 8 read it", Ranges.inAll("u7").votes(7, 0), 8);
        Check.same("all 8 clobber it", Ranges.inAll("d7").votes(7, 2), 8);
        Check.same("all 8 preserve it", Ranges.inAll("u7").votes(7, 3), 8);
        Check.same("none", new ConventionInference().votes(7, 3), 0);
        ConventionInference x = Check.program("c1;u0", "d0", "u0", "c1;u0;d7");
        Check.sentence(29, "- `kind`: 0 for functions of which it is an argument, 1 for those of which it is a result, 2 for those"
                + " that clobber it, 3 for those that preserve it");
        int[] due = {1, 1, 3, 1};
        for (int kind = 0; kind < 4; kind++) {
            Check.same("votes(0, " + kind + ")", x.votes(0, kind), due[kind]);
        }
        Check.same("votes(7, 2)", x.votes(7, 2), 1);
        Check.same("votes(7, 3)", x.votes(7, 3), 3);
        for (int kind = 0; kind < 4; kind++) {
            int one = kind;
            Ranges.registers(29, "votes of kind " + kind, register -> x.votes(register, one));
        }
    }

    private static void wrongKinds() {
        Check.sentence(29, "Throws `IllegalArgumentException` if the kind is out of range");
        ConventionInference x = Check.program("u0");
        for (int kind : new int[] {-1, 4, 5, 32, 256, Integer.MIN_VALUE, Integer.MIN_VALUE + 3, Integer.MAX_VALUE}) {
            Check.fails("votes(0, " + kind + ")", IllegalArgumentException.class, () -> x.votes(0, kind));
            Check.fails("votes(7, " + kind + ")", IllegalArgumentException.class, () -> x.votes(7, kind));
            Check.fails("votes without bodies", IllegalArgumentException.class, () -> new ConventionInference().votes(0, kind));
        }
    }

    private static void countedFunctions() {
        Check.sentence(0, "For each register, the functions with bodies that are not empty are counted: those of which it is an"
                + " argument, those of which it is a result, those that clobber it, and those that preserve it.");
        ConventionInference x = Check.program("", "r", "", "d0", "", "", "", "u0");
        Check.same("preserved by two of three", x.votes(0, 3), 2);
        Check.same("clobbered by one", x.votes(0, 2), 1);
        Check.same("preserved by three", x.votes(1, 3), 3);
        x.removeInstruction(1, 0);
        Check.same("one is empty now", x.votes(1, 3), 2);
        Check.same("a body that is not reachable but for its return", Check.program("r;d0").votes(0, 3), 1);
        Check.same("a result of two", Check.program("c1;u0;c2;u0", "d0", "d0").votes(0, 1), 2);
    }

    private static void argumentRole() {
        Check.sentence(0, "The role of a register is the first of the following that applies: 1 argument, if it is an argument of"
                + " at least half of the functions;");
        Check.same("1 of 1", Check.program("u0").role(0), 1);
        Check.same("1 of 2", Check.program("u0", "r").role(0), 1);
        Check.same("1 of 3", Check.program("u0", "r", "r").role(0), 4);
        Check.same("2 of 3", Check.program("u0", "u0", "r").role(0), 1);
        Check.same("2 of 5", Check.program("u0", "u0", "r", "r", "r").role(0), 4);
        Check.same("3 of 5", Check.program("u0", "u0", "u0", "r", "r").role(0), 1);
        Check.same("3 of 8", Check.program("u0", "u0", "u0", "r", "r", "r", "r", "r").role(0), 4);
        Check.same("4 of 8", Check.program("u0", "u0", "u0", "u0", "r", "r", "r", "r").role(0), 1);
        Check.same("8 of 8", Ranges.inAll("u7").role(7), 1);
        Check.same("1 of 2 and empty ones", Check.program("u0", "", "r", "", "", "").role(0), 1);
        Check.same("before result and scratch", Check.program("c1;u0", "u0;d0").role(0), 1);
    }

    private static void resultRole() {
        Check.sentence(0, "2 result, if it is a result of at least one function;");
        Check.same("of one of two", Check.program("c1;u0", "d0").role(0), 2);
        Check.same("of one of 8", Check.program("c1;u0", "d0", "r", "r", "r", "r", "r", "r").role(0), 2);
        Check.same("of two", Check.program("c1;u0;c2;u0", "d0", "d0", "r", "r", "r", "r").role(0), 2);
        Check.same("of none", Check.program("c1", "d0", "r", "r", "r").role(0), 4);
        Check.same("before scratch", Check.program("c1;u0", "d0", "d0", "d0").role(0), 2);
        Check.same("an argument of less than half", Check.program("c1;u0", "u0;d0", "r", "r", "r").role(0), 2);
    }

    private static void scratchRole() {
        Check.sentence(0, "3 scratch, if at least half of the functions clobber it;");
        Check.same("1 of 1", Check.program("d0").role(0), 3);
        Check.same("1 of 2", Check.program("d0", "r").role(0), 3);
        Check.same("1 of 3", Check.program("d0", "r", "r").role(0), 4);
        Check.same("2 of 3", Check.program("d0", "d0", "r").role(0), 3);
        Check.same("3 of 8", Check.program("d0", "d0", "d0", "r", "r", "r", "r", "r").role(0), 4);
        Check.same("4 of 8", Check.program("d0", "d0", "d0", "d0", "r", "r", "r", "r").role(0), 3);
        Check.same("1 of 2 and empty ones", Check.program("", "d0", "", "r").role(0), 3);
    }

    private static void savedRole() {
        Check.sentence(0, "4 saved.");
        Check.same("not used", Check.program("r").role(7), 4);
        Check.same("saved and restored", Check.program("+0;d0;-0").role(0), 4);
    }

    private static void role() {
        Check.sentence(30, "Returns the role of a register.", "Returns 1 to 4.");
        ConventionInference x = Check.program("c1;u1;u0", "d1;d2", "u0;d2", "r");
        Check.same("role(0)", x.role(0), 1);
        Check.same("role(1)", x.role(1), 2);
        Check.same("role(2)", x.role(2), 3);
        Check.same("role(3)", x.role(3), 4);
        Ranges.registers(30, "role", x::role);
        Check.sentence(30, "Throws `NoSuchElementException` if all bodies are empty");
        for (int register = 0; register < 8; register++) {
            int one = register;
            Check.fails("a new object", NoSuchElementException.class, () -> new ConventionInference().role(one));
        }
        ConventionInference emptied = Check.program("", "", "", "", "", "", "", "r");
        Check.same("one body", emptied.role(0), 4);
        emptied.removeInstruction(7, 0);
        Check.fails("none any more", NoSuchElementException.class, () -> emptied.role(0));
    }

    private static void preservedShare() {
        Check.sentence(35, "Returns the average number of preserved registers: the sum of these numbers over all functions with"
                + " bodies that are not empty, divided by the number of these functions, both converted to double.",
                "Returns the average.");
        Check.same("all of one", Check.program("r").preservedShare(), 8.0);
        Check.same("none of one", Check.program("+0").preservedShare(), 0.0);
        Check.same("all of eight", Ranges.inAll("r").preservedShare(), 8.0);
        Check.same("the last one only", Check.program("", "", "", "", "", "", "", "d7").preservedShare(), 7.0);
        Check.same("15 of 2", Check.program("d0", "r").preservedShare(), 7.5);
        Check.same("22 of 3", Check.program("d0", "r", "", "d1").preservedShare(), 22.0 / 3.0);
        Check.same("55 of 7", Check.program("d0", "r", "r", "r", "r", "r", "r").preservedShare(), 55.0 / 7.0);
        Check.sentence(35, "Throws `ArithmeticException` if all bodies are empty");
        Check.fails("a new object", ArithmeticException.class, () -> new ConventionInference().preservedShare());
        ConventionInference x = Check.program("u0");
        x.removeInstruction(0, 0);
        Check.fails("the only instruction was removed", ArithmeticException.class, x::preservedShare);
    }
}
