import java.util.function.IntConsumer;

/** The smallest and the largest of each kind of parameter, and what lies outside of it. */
final class Ranges {
    private static final String FOURTEEN = "u0" + ";u0".repeat(13);

    /** A question about an instruction, or about a call site with some part of it. */
    interface Question {
        Object ask(ConventionInference x, int first, int second);
    }

    private Ranges() {
    }

    /** For the promises that refuse what is no function and nothing else of their parameter. */
    static void functions(int promise, String name, IntConsumer call) {
        Check.sentence(promise, "- `function`: the function, 0 to 7");
        eightAnswer(name, call);
        Check.sentence(promise, "Throws `IndexOutOfBoundsException` if there is no such function");
        Check.failsOutOfRange(name, call);
    }

    static void registers(int promise, String name, IntConsumer call) {
        Check.sentence(promise, "- `register`: the register, 0 to 7");
        eightAnswer(name, call);
        Check.sentence(promise, "Throws `IndexOutOfBoundsException` if there is no such register");
        Check.failsOutOfRange(name, call);
    }

    private static void eightAnswer(String name, IntConsumer call) {
        for (int number = 0; number < 8; number++) {
            int one = number;
            Check.answers(name + "(" + one + ")", () -> call.accept(one));
        }
    }

    /** Asks about bodies of 14 instructions, of one and of none, each time with a new object. */
    static void instructions(int promise, String name, Question question) {
        Check.sentence(promise, "- `function`: the function, 0 to 7");
        for (int function = 0; function < 8; function++) {
            accept(name, question, inAll("u1"), function, 0);
        }
        Check.sentence(promise, "- `index`: the number of the instruction");
        for (int index = 0; index < 14; index++) {
            accept(name, question, threeLengths(), 0, index);
            accept(name, question, threeLengths(), 7, index);
        }
        accept(name, question, threeLengths(), 3, 0);
        Check.sentence(promise, "Throws `IndexOutOfBoundsException` if there is no such function or instruction");
        Check.failsOutOfRange(name + " without a function", function -> question.ask(inAll("u1"), function, 0));
        int[] never = {-1, -14, -42, 14, 15, 28, 98, 112, Integer.MIN_VALUE, Integer.MIN_VALUE + 1, Integer.MAX_VALUE};
        for (int function : new int[] {0, 2, 3, 7}) {
            for (int index : never) {
                refuse(name, question, function, index);
            }
        }
        refuse(name, question, 3, 1);
        refuse(name, question, 2, 0);
        refuse(name, question, 8, -14);
        refuse(name, question, -1, 14);
    }

    private static void accept(String name, Question question, ConventionInference x, int first, int second) {
        Check.answers(name + "(" + first + ", " + second + ")", () -> question.ask(x, first, second));
    }

    private static void refuse(String name, Question question, int function, int index) {
        Check.fails(name + "(" + function + ", " + index + ")", IndexOutOfBoundsException.class,
                () -> question.ask(threeLengths(), function, index));
    }

    static ConventionInference inAll(String body) {
        return Check.program(body, body, body, body, body, body, body, body);
    }

    private static ConventionInference threeLengths() {
        return Check.program(FOURTEEN, "", "", "u0", "", "", "", FOURTEEN);
    }

    /** Asks about no call sites, about three of them, and about as many as there can be. */
    static void sites(int promise, String name, Question question) {
        Check.sentence(promise, "- `site`: the number of the call site");
        ConventionInference three = Check.program("c1;r;c1", "u0;c7", "r", "", "", "", "", "l0;c7");
        for (int site = 0; site < 3; site++) {
            accept(name, question, three, site, 0);
        }
        ConventionInference most = inAll("c0" + ";c0".repeat(13));
        accept(name, question, most, 111, 0);
        Check.sentence(promise, "Throws `IndexOutOfBoundsException` if there is no such call site");
        for (int site : new int[] {-1, 3, 4, 32, 112, -112, Integer.MIN_VALUE, Integer.MAX_VALUE}) {
            Check.fails(name + "(" + site + ") of 3", IndexOutOfBoundsException.class, () -> question.ask(three, site, 0));
        }
        for (int site : new int[] {-1, 112, 113, Integer.MIN_VALUE, Integer.MAX_VALUE}) {
            Check.fails(name + "(" + site + ") of 112", IndexOutOfBoundsException.class, () -> question.ask(most, site, 0));
        }
        ConventionInference none = Check.program("r;c1", "u0");
        for (int site : new int[] {-1, 0, 1}) {
            Check.fails(name + "(" + site + ") of none", IndexOutOfBoundsException.class, () -> question.ask(none, site, 0));
        }
    }
}
