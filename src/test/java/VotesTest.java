import java.util.NoSuchElementException;

/** Promises 27 to 30, 35 and 36: problems, firstProblem, votes, role, preservedShare, problemShare. */
public final class VotesTest {
    public static void main(String[] args) {
        problems();
        problemShare();
        votes();
        roles();
        preservedShare();
        wrongInputs();
        Check.finish();
    }

    private static void problems() {
        ConventionInference x = Check.program("s0;c1;c1;c2;u3", "l0", "b1;d3");
        Check.same("problems", x.problems(), 2);
        Check.same("firstProblem", x.firstProblem(), 1);
        x.removeInstruction(0, 2);
        Check.same("problems then", x.problems(), 1);
        Check.same("firstProblem then", x.firstProblem(), 1);
        x.removeInstruction(0, 3);
        Check.same("problems at last", x.problems(), 0);
        Check.fails("firstProblem at last", NoSuchElementException.class, x::firstProblem);
        Check.same("both at one site", Check.program("c1;u3", "b1;d3;l0").problems(), 1);
    }

    private static void problemShare() {
        Check.same("1 of 3", Check.program("c1;s0;c1;s0;c1", "l0").problemShare(), 1f / 3f);
        Check.same("2 of 2", Check.program("c1;c1", "l0").problemShare(), 1f);
        Check.same("none", Check.program("c1").problemShare(), 0f);
        Check.same("3 of 7", Check.program("c2;c2;c2;c1;c1;c1;c1", "", "l3").problemShare(), 3f / 7f);
        Check.fails("no sites", ArithmeticException.class, () -> Check.program("r;c1").problemShare());
        Check.fails("no bodies", ArithmeticException.class, () -> new ConventionInference().problemShare());
    }

    private static void votes() {
        ConventionInference x = Check.program("c1;u0", "m01", "", "u1", "-2");
        int[][] due = {{0, 1, 3, 1}, {3, 0, 1, 3}, {0, 0, 1, 3}, {0, 0, 1, 3}};
        for (int register = 0; register < due.length; register++) {
            for (int kind = 0; kind < 4; kind++) {
                Check.same("votes(" + register + ", " + kind + ")", x.votes(register, kind), due[register][kind]);
            }
        }
        ConventionInference empty = new ConventionInference();
        for (int kind = 0; kind < 4; kind++) {
            Check.same("votes of no body", empty.votes(7, kind), 0);
        }
    }

    private static void roles() {
        ConventionInference half = Check.program("u0;d1;d2", "d1;d3", "r", "r");
        Check.body(half, 0, "u0;d1");
        Check.same("1 of 4 reads", half.role(0), 4);
        Check.same("2 of 4 clobber", half.role(1), 3);
        Check.same("1 of 4 clobbers", half.role(3), 4);
        Check.body(half, 3, "u0");
        Check.same("2 of 4 read", half.role(0), 1);
        Check.body(half, 4, "r");
        Check.same("2 of 5 read", half.role(0), 4);
        Check.same("2 of 5 clobber", half.role(1), 4);
        ConventionInference order = Check.program("c1;u0;u2", "u0;d0;d2", "r", "r", "r");
        Check.same("an argument of 2 of 5 and a result", order.role(0), 2);
        Check.body(order, 2, "u0");
        Check.same("the argument comes first", order.role(0), 1);
        Check.same("a result of one", order.role(2), 2);
        Check.same("none", order.role(7), 4);
        Check.same("role(4) of one body", Check.program("d4").role(4), 3);
    }

    private static void preservedShare() {
        Check.same("all", Check.program("u0").preservedShare(), 8.0);
        Check.same("three", Check.program("d0", "d1;d2", "", "r").preservedShare(), 21.0 / 3.0);
        Check.same("a fraction", Check.program("d0", "r", "r").preservedShare(), 23.0 / 3.0);
        Check.same("none", Check.program("-1").preservedShare(), 0.0);
        Check.fails("no bodies", ArithmeticException.class, () -> new ConventionInference().preservedShare());
        ConventionInference x = Check.program("d0");
        x.removeInstruction(0, 0);
        Check.fails("no bodies then", ArithmeticException.class, x::preservedShare);
        Check.fails("no roles then", NoSuchElementException.class, () -> x.role(0));
    }

    private static void wrongInputs() {
        ConventionInference x = Check.program("u0");
        Check.failsOutOfRange("votes", r -> x.votes(r, 0));
        Check.failsOutOfRange("votes of a wrong kind", r -> x.votes(r, 4));
        Check.failsOutOfRange("role", x::role);
        Check.failsOutOfRange("role without bodies", r -> new ConventionInference().role(r));
        for (int kind : new int[] {-1, 4, Integer.MIN_VALUE, Integer.MAX_VALUE}) {
            Check.fails("votes(0, " + kind + ")", IllegalArgumentException.class, () -> x.votes(0, kind));
        }
    }
}
