/** What the tests share: comparing answers, writing bodies, and counting what is wrong. */
final class Check {
    private static int checks = 0;
    private static int wrong = 0;

    private Check() {
    }

    static void same(String what, Object got, Object want) {
        checks++;
        if (!got.equals(want)) {
            wrong++;
            System.out.println(what + " answered " + got + ", due is " + want);
        }
    }

    static void fails(String what, Class<? extends RuntimeException> due, Runnable call) {
        checks++;
        Class<?> got = null;
        try {
            call.run();
        } catch (RuntimeException e) {
            got = e.getClass();
        }
        if (got != due) {
            wrong++;
            System.out.println(what + " threw " + got + ", due is " + due);
        }
    }

    /** Checks that the call throws for each number that is no function or no register. */
    static void failsOutOfRange(String what, java.util.function.IntConsumer call) {
        for (int number : new int[] {-1, 8, 9, 32, Integer.MIN_VALUE, Integer.MAX_VALUE}) {
            fails(what + "(" + number + ")", IndexOutOfBoundsException.class, () -> call.accept(number));
        }
    }

    static void write(ConventionInference x, String text) {
        for (int i = 0; i < text.length(); i++) {
            x.appendCharacter(text.charAt(i));
        }
    }

    static int body(ConventionInference x, int function, String text) {
        write(x, text);
        return x.setBody(function);
    }

    /** A new object whose functions 0, 1, .. have the bodies. */
    static ConventionInference program(String... bodies) {
        ConventionInference x = new ConventionInference();
        for (int function = 0; function < bodies.length; function++) {
            body(x, function, bodies[function]);
        }
        return x;
    }

    /** Ends the test: with exit code 1 if an answer was wrong. */
    static void finish() {
        System.out.println(checks + " checks, " + wrong + " wrong");
        System.exit(wrong == 0 ? 0 : 1);
    }
}
