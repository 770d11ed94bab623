import java.util.ArrayList;
import java.util.Arrays;
import java.util.List;
import java.util.NoSuchElementException;
import java.util.Random;

/**
 * Made-up runs of calls on one object each, wrong calls among them: the text, the fault position, the bodies, what is
 * saved and what is known of the latest run must stay as the document says.
 */
public final class SessionTest {
    private static final String SIGNS = "udm+-clsbr;0123456789x";
    private static final String BODIES = "u1;d2|d0|c1;u0|m01|+4;d4;-4|s0;c1|l1|-1|b1;d3|c2;c3;r|r|b2;u0;r;u1|+0|u0;x|d|m8|";

    private final ConventionInference x = new ConventionInference();
    private final Random random;
    private final StringBuilder text = new StringBuilder();
    private String[] bodies = new String[8];
    private String[] saved = null;
    private int fault = -1;
    private Model model;
    private boolean hasRun = false;

    private SessionTest(long seed) {
        random = new Random(seed);
        Arrays.fill(bodies, "");
        model = new Model(bodies);
    }

    public static void main(String[] args) {
        for (int session = 0; session < 400; session++) {
            SessionTest test = new SessionTest(session);
            for (int call = 0; call < 200; call++) {
                test.call();
            }
        }
        Check.finish();
    }

    private void call() {
        switch (random.nextInt(12)) {
            case 0 -> append(random.nextInt(200) - 20);
            case 1 -> append(SIGNS.charAt(random.nextInt(SIGNS.length())));
            case 2 -> appendText(BODIES.split("\\|", -1)[random.nextInt(17)]);
            case 3 -> appendText(random.nextBoolean() ? "r;r;r;r;r;r;r;" : ";");
            case 4, 5 -> setBody(random.nextInt(10) - 1);
            case 6 -> remove(random.nextInt(10) - 1, random.nextInt(6) - 1);
            case 7 -> run(random.nextInt(10) - 1, random.nextInt());
            case 8 -> saveOrRestore(random.nextBoolean());
            case 9 -> latestRun(random.nextInt(10) - 1);
            default -> facts(random.nextInt(8));
        }
        Check.same("faultPosition", x.faultPosition(), fault);
    }

    private void appendText(String part) {
        for (char sign : part.toCharArray()) {
            append(sign);
        }
    }

    private void append(int character) {
        if (character < 33 || character > 126) {
            Check.fails("appendCharacter", IllegalArgumentException.class, () -> x.appendCharacter(character));
        } else if (text.length() == 60) {
            Check.fails("appendCharacter", IllegalStateException.class, () -> x.appendCharacter(character));
        } else {
            text.append((char) character);
            Check.same("appendCharacter", x.appendCharacter(character), text.length());
        }
    }

    private void setBody(int function) {
        if (function < 0 || function > 7) {
            Check.fails("setBody", IndexOutOfBoundsException.class, () -> x.setBody(function));
            return;
        }
        String read = text.toString();
        text.setLength(0);
        fault = faultOf(read);
        int count = read.isEmpty() ? 0 : read.split(";", -1).length;
        if (fault >= 0) {
            Check.fails("setBody of " + read, IllegalArgumentException.class, () -> x.setBody(function));
        } else if (count > 14) {
            Check.fails("setBody of " + read, IllegalStateException.class, () -> x.setBody(function));
        } else {
            Check.same("setBody of " + read, x.setBody(function), count);
            bodies[function] = read;
            change();
        }
    }

    /** The length of the longest beginning that a body text can have, or -1 if the whole is one. */
    private static int faultOf(String read) {
        String one = "([ud+\\-c][0-7]|m[0-7][0-7]|[ls][0-3]|b[1-9]|r)";
        if (read.matches("(" + one + "(;" + one + ")*)?")) {
            return -1;
        }
        int longest = read.length();
        while (!read.substring(0, longest).matches("(" + one + ";)*(|" + one + "|[ud+\\-clsbm]|m[0-7])")) {
            longest--;
        }
        return longest;
    }

    private void remove(int function, int index) {
        boolean isThere = function >= 0 && function < 8 && index >= 0 && index < model.bodies.get(function).size();
        if (!isThere) {
            Check.fails("removeInstruction", IndexOutOfBoundsException.class, () -> x.removeInstruction(function, index));
            return;
        }
        List<String> rest = new ArrayList<>(model.bodies.get(function));
        rest.remove(index);
        Check.same("removeInstruction", x.removeInstruction(function, index), rest.size());
        bodies[function] = String.join(";", rest);
        change();
    }

    private void run(int function, int choices) {
        if (function < 0 || function > 7) {
            Check.fails("run", IndexOutOfBoundsException.class, () -> x.run(function, choices));
            return;
        }
        model.run(function, choices);
        Check.same("run", x.run(function, choices), model.steps);
        hasRun = true;
    }

    private void saveOrRestore(boolean saves) {
        if (saves) {
            x.save();
            saved = bodies.clone();
        } else if (saved == null) {
            Check.fails("restore", IllegalStateException.class, x::restore);
        } else {
            x.restore();
            bodies = saved.clone();
            change();
        }
    }

    private void change() {
        model = new Model(bodies);
        hasRun = false;
    }

    private void latestRun(int register) {
        if (register < 0 || register > 7) {
            Check.fails("origin", IndexOutOfBoundsException.class, () -> x.origin(register));
        } else if (!hasRun) {
            Check.fails("isCut", IllegalStateException.class, x::isCut);
            Check.fails("observed", IllegalStateException.class, x::observed);
            Check.fails("origin", IllegalStateException.class, () -> x.origin(register));
        } else if (model.cut) {
            Check.same("isCut", x.isCut(), true);
            Check.fails("observed", NoSuchElementException.class, x::observed);
            Check.fails("origin", NoSuchElementException.class, () -> x.origin(register));
        } else {
            Check.same("isCut", x.isCut(), false);
            Check.same("observed", (x.observed() >> register & 1) == 1, model.registers[register] == register);
        }
    }

    private void facts(int function) {
        Check.same("length", x.length(function), model.bodies.get(function).size());
        Check.same("isBalanced", x.isBalanced(function), model.balanced[function]);
        Check.same("preserved", x.preserved(function), model.preserved[function]);
        Check.same("surelyDefined", x.surelyDefined(function), model.sure[function]);
        Check.same("arguments", x.arguments(function), model.arguments[function]);
        Check.same("results", x.results(function), model.results[function]);
        Check.same("neededSlots", x.neededSlots(function), model.needed(function));
        Check.same("isVariadic", x.isVariadic(function), model.variadic(function));
        Check.same("callees", x.callees(function), model.callees(function));
        Check.same("callersOf", x.callersOf(function), model.callersOf(function));
        Check.same("isRecursive", x.isRecursive(function), model.recursive(function));
        Check.same("siteCount", x.siteCount(), model.sites.size());
        Check.same("votes", x.votes(function, 2), model.votes(function, 2));
    }
}
