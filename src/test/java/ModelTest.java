import java.util.NoSuchElementException;
import java.util.Random;

/** Promises 3 and 5 to 36 on many made-up programs: the class must answer as the model does. */
public final class ModelTest {
    private static final String[] WEIGHTS = {"udm+-clsbr", "ddmmbbcu", "cccbdu", "uuddmmbbccccls", "lsssbcc", "+-db", "bbbbdcs"};

    public static void main(String[] args) {
        Random random = new Random(20261117);
        for (int program = 0; program < 3000; program++) {
            compare(randomProgram(random), random);
        }
        Check.finish();
    }

    private static String[] randomProgram(Random random) {
        String[] texts = new String[8];
        int filled = 1 + random.nextInt(8);
        for (int f = 0; f < 8; f++) {
            boolean isEmpty = f >= filled && random.nextInt(4) > 0;
            texts[f] = isEmpty ? "" : randomBody(random, 1 + random.nextInt(14), filled);
        }
        return texts;
    }

    private static String randomBody(Random random, int count, int functions) {
        String weights = WEIGHTS[random.nextInt(WEIGHTS.length)];
        StringBuilder body = new StringBuilder();
        int saved = random.nextInt(3) == 0 && count > 4 ? random.nextInt(8) : -1;
        if (saved >= 0) {
            body.append('+').append(saved).append(';');
        }
        for (int i = saved >= 0 ? 2 : 0; i < count; i++) {
            append(body, random, weights.charAt(random.nextInt(weights.length())), functions);
        }
        if (saved >= 0) {
            body.append('-').append(saved).append(';');
        }
        body.setLength(Math.max(0, body.length() - 1));
        return body.length() > 60 ? "" : body.toString();
    }

    private static void append(StringBuilder body, Random random, char kind, int functions) {
        // Few registers, so that instructions have to do with one another.
        int registers = random.nextInt(4) == 0 ? 8 : 3;
        body.append(kind);
        switch (kind) {
            case 'm' -> body.append(random.nextInt(registers)).append(random.nextInt(registers));
            case 'c' -> body.append(random.nextInt(functions));
            case 'l', 's' -> body.append(random.nextInt(4));
            case 'b' -> body.append(1 + random.nextInt(random.nextInt(3) == 0 ? 9 : 3));
            case 'r' -> { }
            default -> body.append(random.nextInt(registers));
        }
        body.append(';');
    }

    private static void compare(String[] texts, Random random) {
        String name = String.join(" / ", texts) + ": ";
        Model model = new Model(texts);
        ConventionInference x = Check.program(texts);
        for (int f = 0; f < 8; f++) {
            compareBody(name, model, x, f);
            compareFunction(name, model, x, f);
        }
        compareSites(name, model, x);
        compareVotes(name, model, x);
        for (int k = 0; k < 10; k++) {
            compareRun(name, model, x, random.nextInt(8), random.nextInt());
        }
    }

    private static void compareBody(String name, Model model, ConventionInference x, int f) {
        Check.same(name + "length", x.length(f), model.bodies.get(f).size());
        for (int i = 0; i < model.bodies.get(f).size(); i++) {
            String what = name + f + ", " + i + " ";
            int index = i;
            char kind = model.kind(f, i);
            Check.same(what + "instruction", x.instruction(f, i), kind);
            if (kind == 'r') {
                Check.fails(what + "operand", UnsupportedOperationException.class, () -> x.operand(f, index));
            } else {
                Check.same(what + "operand", x.operand(f, i), Integer.parseInt(model.bodies.get(f).get(i).substring(1)));
            }
            Check.same(what + "isReachable", x.isReachable(f, i), model.reachable(f, i));
            if (model.reachable(f, i)) {
                Check.same(what + "liveBefore", x.liveBefore(f, i), model.live[f][i]);
            } else {
                Check.fails(what + "liveBefore", IllegalStateException.class, () -> x.liveBefore(f, index));
            }
        }
    }

    private static void compareFunction(String name, Model model, ConventionInference x, int f) {
        String what = name + f + " ";
        Check.same(what + "isBalanced", x.isBalanced(f), model.balanced[f]);
        Check.same(what + "preserved", x.preserved(f), model.preserved[f]);
        Check.same(what + "surelyDefined", x.surelyDefined(f), model.sure[f]);
        Check.same(what + "arguments", x.arguments(f), model.arguments[f]);
        Check.same(what + "results", x.results(f), model.results[f]);
        Check.same(what + "neededSlots", x.neededSlots(f), model.needed(f));
        Check.same(what + "isVariadic", x.isVariadic(f), model.variadic(f));
        Check.same(what + "callees", x.callees(f), model.callees(f));
        Check.same(what + "callersOf", x.callersOf(f), model.callersOf(f));
        Check.same(what + "isRecursive", x.isRecursive(f), model.recursive(f));
    }

    private static void compareSites(String name, Model model, ConventionInference x) {
        Check.same(name + "siteCount", x.siteCount(), model.sites.size());
        int problems = 0;
        int firstProblem = -1;
        for (int site = 0; site < model.sites.size(); site++) {
            String what = name + "site " + site + " ";
            int[] due = model.sites.get(site);
            for (int part = 0; part < 3; part++) {
                Check.same(what + "site", x.site(site, part), due[part]);
            }
            Check.same(what + "passedSlots", x.passedSlots(site), due[3]);
            Check.same(what + "liveBehind", x.liveBehind(site), due[4]);
            Check.same(what + "missingSlots", x.missingSlots(site), model.missing(due));
            Check.same(what + "lostRegisters", x.lostRegisters(site), model.lost(due));
            if ((model.missing(due) | model.lost(due)) != 0) {
                firstProblem = problems == 0 ? site : firstProblem;
                problems++;
            }
        }
        Check.same(name + "problems", x.problems(), problems);
        if (problems == 0) {
            Check.fails(name + "firstProblem", NoSuchElementException.class, x::firstProblem);
        } else {
            Check.same(name + "firstProblem", x.firstProblem(), firstProblem);
        }
        if (model.sites.isEmpty()) {
            Check.fails(name + "problemShare", ArithmeticException.class, x::problemShare);
        } else {
            Check.same(name + "problemShare", x.problemShare(), (float) problems / (float) model.sites.size());
        }
    }

    private static void compareVotes(String name, Model model, ConventionInference x) {
        int preserved = 0;
        for (int register = 0; register < 8; register++) {
            for (int kind = 0; kind < 4; kind++) {
                Check.same(name + "votes", x.votes(register, kind), model.votes(register, kind));
            }
            preserved += model.votes(register, 3);
            int number = register;
            if (model.filled() == 0) {
                Check.fails(name + "role", NoSuchElementException.class, () -> x.role(number));
            } else {
                Check.same(name + "role", x.role(register), model.role(register));
            }
        }
        if (model.filled() == 0) {
            Check.fails(name + "preservedShare", ArithmeticException.class, x::preservedShare);
        } else {
            Check.same(name + "preservedShare", x.preservedShare(), (double) preserved / (double) model.filled());
        }
    }

    private static void compareRun(String name, Model model, ConventionInference x, int f, int choices) {
        String what = name + "run(" + f + ", " + choices + ") ";
        model.run(f, choices);
        Check.same(what, x.run(f, choices), model.steps);
        Check.same(what + "isCut", x.isCut(), model.cut);
        if (model.cut) {
            Check.fails(what + "observed", NoSuchElementException.class, x::observed);
            return;
        }
        int own = 0;
        for (int register = 0; register < 8; register++) {
            int value = model.registers[register];
            int number = register;
            own |= value == register ? 1 << register : 0;
            if (value < 8) {
                Check.same(what + "origin", x.origin(register), value);
            } else {
                Check.fails(what + "origin", NoSuchElementException.class, () -> x.origin(number));
            }
        }
        Check.same(what + "observed", x.observed(), own);
    }
}
