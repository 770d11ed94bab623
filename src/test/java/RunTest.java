import java.util.NoSuchElementException;

/** Promises 31 to 34: run, isCut, observed, origin. */
public final class RunTest {
    public static void main(String[] args) {
        straightRuns();
        branches();
        manyBranches();
        stackCuts();
        activationCuts();
        instructionCuts();
        origins();
        whenThereWasNoRun();
        wrongInputs();
        Check.finish();
    }

    private static void straightRuns() {
        ConventionInference x = Check.program("d0;c1;u2;r;d3", "+1;+2;-1", "", "c2;c2");
        Check.same("run(0)", x.run(0, 0), 7);
        Check.same("isCut", x.isCut(), false);
        Check.same("observed", x.observed(), 255 & ~1 & ~2);
        Check.same("run(1)", x.run(1, 0), 3);
        Check.same("observed", x.observed(), 253);
        Check.same("run(2)", x.run(2, 0), 0);
        Check.same("observed", x.observed(), 255);
        Check.same("run(3)", x.run(3, 0), 2);
        Check.same("isCut", x.isCut(), false);
    }

    private static void branches() {
        ConventionInference x = Check.program("b2;d0;r;b1;d1;c1", "b9;d2");
        Check.same("00", x.run(0, 0), 3);
        Check.same("00", x.observed(), 254);
        Check.same("1", x.run(0, 1), 6);
        Check.same("1", x.observed(), 255 & ~2 & ~4);
        Check.same("11", x.run(0, 3), 5);
        Check.same("11", x.observed(), 251);
        Check.same("111", x.run(0, 7), 4);
        Check.same("111", x.observed(), 255);
        Check.same("101", x.run(0, -3), 5);
        Check.same("101", x.observed(), 253);
    }

    /** 5 calls with 7 branches each, and one more: those behind the 32nd use the choices from bit 0 again. */
    private static void manyBranches() {
        String seven = "b1;d0;b1;d1;b1;d2;b1;d3;b1;d4;b1;d5;b1;d6";
        ConventionInference x = Check.program("c1;c1;c1;c1;c1;b1;d7", seven);
        Check.same("no branch is taken", x.run(0, 0), 77);
        Check.same("no branch is taken", x.observed(), 0);
        Check.same("all are taken", x.run(0, -1), 41);
        Check.same("all are taken", x.observed(), 255);
        Check.same("all but bit 31, of call 4", x.run(0, Integer.MAX_VALUE), 42);
        Check.same("all but bit 31, of call 4", x.observed(), 255 & ~8);
        Check.same("all but bit 3, of call 0 and at last", x.run(0, ~8), 43);
        Check.same("all but bit 3, of call 0 and at last", x.observed(), 255 & ~8 & ~128);
    }

    private static void stackCuts() {
        String six = "+0" + ";+0".repeat(5);
        ConventionInference x = Check.program("d1;-0", six + ";+0", six + ";c3", "+1;-2", six + ";c5;-7", "-0", "+0;r");
        Check.same("a pop from nothing", x.run(0, 0), 1);
        Check.same("a pop from nothing", x.isCut(), true);
        Check.same("the 7th push", x.run(1, 0), 6);
        Check.same("the 7th push", x.isCut(), true);
        Check.same("own stacks", x.run(2, 0), 9);
        Check.same("own stacks", x.isCut(), false);
        Check.same("own stacks", x.origin(2), 1);
        Check.same("no pop from the caller's", x.run(4, 0), 7);
        Check.same("no pop from the caller's", x.isCut(), true);
        Check.same("values may stay", x.run(6, 0), 2);
        Check.same("values may stay", x.isCut(), false);
        ConventionInference again = Check.program("+0;c1;c1;-3", "+1");
        again.run(0, 0);
        Check.same("a new activation has a new stack", again.origin(3), 0);
    }

    private static void activationCuts() {
        ConventionInference x = Check.program("c1", "c2", "c3", "c4", "c5", "c6", "c7", "u0;c0");
        Check.same("8 are open", x.run(0, 0), 8);
        Check.same("8 are open", x.isCut(), true);
        Check.body(x, 7, "u0");
        Check.same("8 are enough", x.run(0, 0), 8);
        Check.same("8 are enough", x.isCut(), false);
        Check.body(x, 7, "r;c0");
        Check.same("8 are enough", x.run(0, 0), 8);
        Check.same("8 are enough", x.isCut(), false);
        Check.same("c0 alone", Check.program("c0").run(0, 0), 7);
    }

    private static void instructionCuts() {
        String ten = "u0" + ";u0".repeat(9);
        // 10 calls of 1 + 10 instructions each are 110; 2 calls of that are 222.
        ConventionInference x = Check.program("", ten, "c1" + ";c1".repeat(9), "c2;c2", "", "",
            "c3;c1;c1;c1;c1;c1;c1;c1", "c6;u0");
        Check.same("222", x.run(3, 0), 222);
        Check.same("222", x.isCut(), false);
        Check.same("300 of 1 + 222 + 77 + 1", x.run(7, 0), 300);
        Check.same("one too many", x.isCut(), true);
        Check.same("223 + 77", x.run(6, 0), 300);
        Check.same("exactly 300", x.isCut(), false);
        Check.same("exactly 300", x.observed(), 255);
        x.removeInstruction(7, 1);
        Check.same("1 + 300", x.run(7, 0), 300);
        Check.same("cut in the last body", x.isCut(), true);
        Check.body(x, 6, "c3;c1;c1;c1;c1;c1;c1;c2");
        Check.same("many", x.run(6, 0), 300);
        Check.same("many", x.isCut(), true);
        ConventionInference ends = Check.program("c1", "c2" + ";c2".repeat(12), "c3;c3;c3;c3", "c4;c4;c4", "");
        Check.same("1 + 13 * (1 + 4 * (1 + 3)) = 222", ends.run(0, 0), 222);
        Check.same("many ends of bodies", ends.isCut(), false);
        Check.body(ends, 0, "c1;c3" + ";c3".repeat(11) + ";c4");
        Check.same("222 + 12 * 4 + 1", ends.run(0, 0), 271);
    }

    private static void origins() {
        ConventionInference x = Check.program("m12;+3;d3;-4;m56;d6;m77");
        x.run(0, 0);
        int[] due = {0, 2, 2, -1, 3, 6, -1, 7};
        for (int register = 0; register < 8; register++) {
            int number = register;
            if (due[register] < 0) {
                Check.fails("origin(" + number + ")", NoSuchElementException.class, () -> x.origin(number));
            } else {
                Check.same("origin(" + number + ")", x.origin(number), due[number]);
            }
        }
        Check.same("observed", x.observed(), 1 | 4 | 128);
        ConventionInference swap = Check.program("+0;+1;-0;-1");
        swap.run(0, 0);
        Check.same("origin(0)", swap.origin(0), 1);
        Check.same("origin(1)", swap.origin(1), 0);
        Check.same("observed", swap.observed(), 252);
    }

    private static void whenThereWasNoRun() {
        ConventionInference x = new ConventionInference();
        noRun(x, "new");
        Check.body(x, 0, "d0;d1;u2");
        x.run(0, 0);
        Check.body(x, 1, "d0");
        noRun(x, "behind setBody");
        x.run(0, 0);
        x.removeInstruction(1, 0);
        noRun(x, "behind removeInstruction");
        x.run(0, 0);
        x.save();
        Check.same("behind save", x.observed(), 252);
        x.restore();
        noRun(x, "behind restore");
        x.run(0, 0);
        Check.fails("a fault", IllegalArgumentException.class, () -> Check.body(x, 0, "x"));
        Check.fails("too long", IllegalStateException.class, () -> Check.body(x, 0, "r" + ";r".repeat(14)));
        Check.fails("no function", IndexOutOfBoundsException.class, () -> x.setBody(8));
        Check.fails("no instruction", IndexOutOfBoundsException.class, () -> x.removeInstruction(0, 3));
        Check.fails("no run", IndexOutOfBoundsException.class, () -> x.run(8, 0));
        Check.same("behind failed calls", x.observed(), 252);
        Check.fails("nothing saved", IllegalStateException.class, () -> new ConventionInference().restore());
        ConventionInference unsaved = Check.program("d0");
        unsaved.run(0, 0);
        Check.fails("restore", IllegalStateException.class, unsaved::restore);
        Check.same("behind a failed restore", unsaved.observed(), 254);
        Check.same("the latest run counts", unsaved.run(1, 0), 0);
        Check.same("the latest run counts", unsaved.observed(), 255);
    }

    private static void noRun(ConventionInference x, String when) {
        Check.fails("isCut " + when, IllegalStateException.class, x::isCut);
        Check.fails("observed " + when, IllegalStateException.class, x::observed);
        Check.fails("origin " + when, IllegalStateException.class, () -> x.origin(0));
        Check.failsOutOfRange("origin " + when, x::origin);
    }

    private static void wrongInputs() {
        ConventionInference x = Check.program("-1", "d0");
        Check.failsOutOfRange("run", f -> x.run(f, 0));
        x.run(0, 0);
        Check.same("isCut", x.isCut(), true);
        Check.fails("observed of a cut run", NoSuchElementException.class, x::observed);
        Check.fails("origin of a cut run", NoSuchElementException.class, () -> x.origin(0));
        Check.failsOutOfRange("origin of a cut run", x::origin);
        x.run(1, 0);
        Check.same("not cut", x.isCut(), false);
        Check.failsOutOfRange("origin", x::origin);
    }
}
