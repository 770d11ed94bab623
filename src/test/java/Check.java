import java.util.Set;
import java.util.TreeSet;

/** What the tests share: comparing answers, writing bodies, and counting what is wrong. */
final class Check {
    /** Just outside of 0 to 7, far outside, and numbers whose products, shifts or low bits would fall inside. */
    private static final int[] NOT_ONE_OF_EIGHT = {-1, 8, 9, -7, -8, 14, 16, 31, 32, 33, 39, 64, 256, 263, 65536, 306783379,
        Integer.MIN_VALUE, Integer.MIN_VALUE + 7, Integer.MAX_VALUE - 7, Integer.MAX_VALUE};

    /** The sentences that have been named so far, each with the number of its promise before it. */
    static final Set<String> NAMED = new TreeSet<>();

    private static int checks = 0;
    private static int wrong = 0;
    private static String sentence = "";
    private static int checksBefore = 0;

    private Check() {
    }

    /** Names sentences of a promise (0: of the description) that the checks behind this call are made for. */
    static void sentence(int promise, String... words) {
        endSentence();
        for (String part : words) {
            NAMED.add(promise + " " + part);
        }
        sentence = (promise == 0 ? "description" : "promise " + promise) + " \"" + words[0] + "\": ";
        checksBefore = checks;
    }

    static void endSentence() {
        if (!sentence.isEmpty() && checks == checksBefore) {
            wrong++;
            System.out.println(sentence + "nothing was checked");
        }
        sentence = "";
    }

    static void same(String what, Object got, Object want) {
        checks++;
        if (!got.equals(want)) {
            wrong++;
            System.out.println(sentence + what + " answered " + got + ", due is " + want);
        }
    }

    static void fails(String what, Class<? extends RuntimeException> due, Runnable call) {
        checks++;
        Class<?> got = null;
        try {
            call.run();
        } catch (RuntimeException e) {
            got = e.getClass();
        }
        if (got != due) {
            wrong++;
            System.out.println(sentence + what + " threw " + got + ", due is " + due);
        }
    }

    /** Checks that the call throws nothing, whatever it answers. */
    static void answers(String what, Runnable call) {
        checks++;
        try {
            call.run();
        } catch (RuntimeException e) {
            wrong++;
            System.out.println(sentence + what + " threw " + e.getClass() + ", due is an answer");
        }
    }

    /** Checks that the call throws for each number that is no function or no register. */
    static void failsOutOfRange(String what, java.util.function.IntConsumer call) {
        for (int number : NOT_ONE_OF_EIGHT) {
            fails(what + "(" + number + ")", IndexOutOfBoundsException.class, () -> call.accept(number));
        }
    }

    static void write(ConventionInference x, String text) {
        for (int i = 0; i < text.length(); i++) {
            x.appendCharacter(text.charAt(i));
        }
    }

    static int body(ConventionInference x, int function, String text) {
        write(x, text);
        return x.setBody(function);
    }

    /** A new object whose functions 0, 1, .. have the bodies. */
    static ConventionInference program(String... bodies) {
        ConventionInference x = new ConventionInference();
        for (int function = 0; function < bodies.length; function++) {
            body(x, function, bodies[function]);
        }
        return x;
    }

    /** Ends the test: with exit code 1 if an answer was wrong. */
    static void finish() {
        endSentence();
        System.out.println(checks + " checks, " + wrong + " wrong");
        System.exit(wrong == 0 ? 0 : 1);
    }
}
