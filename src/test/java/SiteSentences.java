import java.util.NoSuchElementException;

/** The sentences of promises 16 to 25, 27, 28 and 36, and what the description says of call sites. */
final class SiteSentences {
    private static final String FOURTEEN_CALLS = "c0" + ";c0".repeat(13);

    private SiteSentences() {
    }

    static void check() {
        neededSlots();
        variadic();
        callees();
        callers();
        recursive();
        siteCount();
        parts();
        wrongParts();
        passedSlots();
        missingSlots();
        lostRegisters();
        problems();
        firstProblem();
        problemShare();
    }

    private static void neededSlots() {
        Check.sentence(16, "Returns the number of needed slots of a function.", "Returns 0 to 4.");
        ConventionInference x = Check.program("", "l0", "l1", "l2", "l3", "s3", "c4", "r;l3");
        int[] due = {0, 1, 2, 3, 4, 0, 0, 0};
        for (int function = 0; function < 8; function++) {
            Check.same("neededSlots(" + function + ")", x.neededSlots(function), due[function]);
        }
        Ranges.functions(16, "neededSlots", x::neededSlots);
        Check.sentence(0, "The needed slots of a function are the slots from 0 to the greatest one that a reachable load of its"
                + " body loads.");
        Check.same("the greatest comes first", Check.program("l3;l0").neededSlots(0), 4);
        Check.same("the greatest comes last", Check.program("l0;l2").neededSlots(0), 3);
        Check.same("the greatest is not reachable", Check.program("l1;r;l3").neededSlots(0), 2);
        Check.same("on one path", Check.program("b1;l2;l0").neededSlots(0), 3);
        Check.same("the last of 14", Check.program("u0" + ";u0".repeat(12) + ";l3").neededSlots(0), 4);
        ConventionInference changed = Check.program("l1;l3");
        Check.same("before a change", changed.neededSlots(0), 4);
        changed.removeInstruction(0, 1);
        Check.same("behind a change", changed.neededSlots(0), 2);
        changed.removeInstruction(0, 0);
        Check.same("behind another", changed.neededSlots(0), 0);
        Check.sentence(0, "l: load of a slot of the caller.");
        Check.same("l0", Check.program("l0").neededSlots(0), 1);
        Check.same("a slot of the caller, not its own", Check.program("s0;l0;c1", "l0").missingSlots(0), 0);
    }

    private static void variadic() {
        Check.sentence(17, "Returns whether a function is variadic.", "Returns whether it is.");
        ConventionInference x = Check.program("s0;c7;c7;c6", "s1;c6", "c5;c5", "r;s0;c5", "", "s3;c4", "s3;c4", "");
        boolean[] due = {false, false, false, false, false, false, true, true};
        for (int function = 0; function < 8; function++) {
            Check.same("isVariadic(" + function + ")", x.isVariadic(function), due[function]);
        }
        Ranges.functions(17, "isVariadic", x::isVariadic);
        Check.sentence(0, "A function is variadic if two call sites of it have different passed slots.");
        Check.same("no call site", Check.program("").isVariadic(0), false);
        Check.same("one call site", Check.program("s0;c1").isVariadic(1), false);
        Check.same("two alike", Check.program("s0;s1;c1;s1;s0;c1").isVariadic(1), false);
        Check.same("none and one", Check.program("c1;s3;c1").isVariadic(1), true);
        Check.same("as many, but others", Check.program("s0;c1;s3;c1").isVariadic(1), true);
        Check.same("the first of three differs", Check.program("s0;c1;c1;c1").isVariadic(1), true);
        Check.same("the second of three differs", Check.program("c1;s0;c1;c1").isVariadic(1), true);
        Check.same("the last of three differs", Check.program("c1;c1;s0;c1").isVariadic(1), true);
        Check.same("one that is not reachable differs", Check.program("c1;r;s0;c1").isVariadic(1), false);
        Check.same("that of another function differs", Check.program("c1;s0;c2").isVariadic(1), false);
        Check.same("itself", Check.program("c0;s0;c0").isVariadic(0), true);
        ConventionInference changed = Check.program("c1;s0;c1");
        Check.same("before a change", changed.isVariadic(1), true);
        changed.removeInstruction(0, 2);
        Check.same("behind a change", changed.isVariadic(1), false);
    }

    private static void callees() {
        Check.sentence(18, "Returns the functions that a function can call by its own reachable calls.",
                "Returns the set of functions.");
        ConventionInference x = Check.program("c0;c1;c2;c3;c4;c5;c6;c7", "c7", "r;c7", "b1;c0", "", "c6", "c5", "c1;c1");
        int[] due = {255, 128, 0, 1, 0, 64, 32, 2};
        for (int function = 0; function < 8; function++) {
            Check.same("callees(" + function + ")", x.callees(function), due[function]);
        }
        Ranges.functions(18, "callees", x::callees);
    }

    private static void callers() {
        Check.sentence(19, "Returns the functions that have a reachable call of a function.", "Returns the set of functions.");
        ConventionInference all = Ranges.inAll("c7");
        Check.same("all", all.callersOf(7), 255);
        Check.same("none", all.callersOf(0), 0);
        ConventionInference x = Check.program("c0", "r;c0", "b1;c3", "c1;c1", "", "c3", "", "c4");
        int[] due = {1, 8, 0, 36, 128, 0, 0, 0};
        for (int function = 0; function < 8; function++) {
            Check.same("callersOf(" + function + ")", x.callersOf(function), due[function]);
        }
        Ranges.functions(19, "callersOf", x::callersOf);
    }

    private static void recursive() {
        Check.sentence(20, "Returns whether a function can call itself, directly or by others, by reachable calls.",
                "Returns whether it can.");
        Check.same("directly", Check.program("c0").isRecursive(0), true);
        Check.same("not reachable", Check.program("r;c0").isRecursive(0), false);
        Check.same("by one other", Check.program("c1", "c0").isRecursive(0), true);
        Check.same("by one other, not reachable there", Check.program("c1", "r;c0").isRecursive(0), false);
        Check.same("only another one", Check.program("c1", "c1").isRecursive(0), false);
        Check.same("no call", Check.program("").isRecursive(7), false);
        ConventionInference up = Check.program("c1", "c2", "c3", "c4", "c5", "c6", "c7", "c0");
        ConventionInference down = Check.program("c7", "c0", "c1", "c2", "c3", "c4", "c5", "c6");
        ConventionInference broken = Check.program("c1", "c2", "c3", "c4", "c5", "c6", "c7", "");
        for (int function = 0; function < 8; function++) {
            Check.same("by seven others, up", up.isRecursive(function), true);
            Check.same("by seven others, down", down.isRecursive(function), true);
            Check.same("one link missing", broken.isRecursive(function), false);
        }
        Ranges.functions(20, "isRecursive", up::isRecursive);
    }

    private static void siteCount() {
        Check.sentence(21, "Returns the number of call sites.");
        Check.same("none", new ConventionInference().siteCount(), 0);
        Check.same("none that is reachable", Check.program("r;c0").siteCount(), 0);
        Check.same("one", Check.program("", "", "", "", "", "", "", "c0").siteCount(), 1);
        ConventionInference most = Ranges.inAll(FOURTEEN_CALLS);
        Check.same("112", most.siteCount(), 112);
        most.removeInstruction(7, 13);
        Check.same("111", most.siteCount(), 111);
        Check.body(most, 7, "");
        Check.same("98", most.siteCount(), 98);
    }

    private static void parts() {
        Check.sentence(22, "Returns a number of a call site.", "Returns the number.");
        ConventionInference x = Check.program("u0;c7", "", "", "", "", "", "", "c0;r;c1");
        Check.same("site(0, 1)", x.site(0, 1), 1);
        Check.same("site(1, 0)", x.site(1, 0), 7);
        Check.sentence(22, "- `part`: 0 for the function that calls, 1 for the number of the instruction, 2 for the called"
                + " function");
        for (int part = 0; part < 3; part++) {
            Check.same("site(0, " + part + ")", x.site(0, part), new int[] {0, 1, 7}[part]);
            Check.same("site(1, " + part + ")", x.site(1, part), new int[] {7, 0, 0}[part]);
        }
        Check.sentence(0, "The call sites are the reachable calls of all bodies, numbered from 0 by their functions and then by"
                + " their instructions.");
        ConventionInference most = Ranges.inAll(FOURTEEN_CALLS);
        for (int site : new int[] {0, 1, 13, 14, 15, 97, 98, 110, 111}) {
            Check.same("site(" + site + ", 0) of 112", most.site(site, 0), site / 14);
            Check.same("site(" + site + ", 1) of 112", most.site(site, 1), site % 14);
        }
        ConventionInference some = Check.program("b1;c1;c2;r;c3", "", "c4", "r;c5", "u0;c6");
        int[] called = {1, 2, 4, 6};
        Check.same("siteCount", some.siteCount(), called.length);
        for (int site = 0; site < called.length; site++) {
            Check.same("site(" + site + ", 2)", some.site(site, 2), called[site]);
        }
        Ranges.sites(22, "site", (y, site, part) -> y.site(site, part));
    }

    private static void wrongParts() {
        Check.sentence(22, "Throws `IllegalArgumentException` if the part is out of range");
        ConventionInference x = Check.program("c1;c1");
        for (int part : new int[] {-1, 3, 4, 32, 256, Integer.MIN_VALUE, Integer.MIN_VALUE + 1, Integer.MAX_VALUE}) {
            Check.fails("site(0, " + part + ")", IllegalArgumentException.class, () -> x.site(0, part));
            Check.fails("site(1, " + part + ")", IllegalArgumentException.class, () -> x.site(1, part));
        }
    }

    private static void passedSlots() {
        Check.sentence(23, "Returns the passed slots of a call site.", "Returns the set of slots.");
        ConventionInference x = Check.program("s0;s1;s2;s3;c0;c1", "s3;c2", "", "", "", "", "", "s0;c0");
        int[] due = {15, 0, 8, 1};
        for (int site = 0; site < due.length; site++) {
            Check.same("passedSlots(" + site + ")", x.passedSlots(site), due[site]);
        }
        Ranges.sites(23, "passedSlots", (y, site, none) -> y.passedSlots(site));
        Check.sentence(0, "The passed slots of a call site are the slots to which a store is executed on each path from the"
                + " beginning of the body to the call,");
        Check.same("no store", passedAtLast("c1"), 0);
        Check.same("the same slot twice", passedAtLast("s2;s2;c1"), 4);
        Check.same("on one path", passedAtLast("b1;s0;c1"), 0);
        Check.same("on each path", passedAtLast("b2;s0;b1;s0;c1"), 1);
        Check.same("on each path another one", passedAtLast("b2;s0;b1;s1;c1"), 0);
        Check.same("not on paths to elsewhere", passedAtLast("b1;r;s1;c1"), 2);
        Check.same("behind the call", passedAtLast("c1;s0"), 0);
        Check.same("13 stores", passedAtLast("s0" + ";s0".repeat(11) + ";s3;c1"), 9);
        Check.same("a load is no store", passedAtLast("l0;l3;c1"), 0);
        Check.sentence(0, "behind the last call before it on this path, if there is one.");
        Check.same("before the last call", passedAtLast("s0;c1;c1"), 0);
        Check.same("before and behind the last call", passedAtLast("s0;c1;s1;c1"), 2);
        Check.same("a call on one path", passedAtLast("s0;b1;c1;c1"), 0);
        Check.same("a call on one path, then a store", passedAtLast("s0;b1;c1;s1;c1"), 2);
        Check.same("stored again behind a call on one path", passedAtLast("s0;b2;c1;s0;c1"), 1);
        Check.sentence(0, "s: store to an own slot.");
        Check.same("not of the called one", Check.program("c1;c2", "s0").passedSlots(1), 0);
        Check.sentence(0, "Each activation of a function has its own stack of values and its own four slots for arguments of"
                + " calls.");
        Check.same("the slots of the caller", Check.program("s0;c1", "c2").passedSlots(1), 0);
        Check.same("all four", passedAtLast("s0;s1;s2;s3;c1"), 15);
        ConventionInference stacks = Check.program("+0;c1;-0", "-1");
        Check.same("the stack of the caller", stacks.run(0, 0), 2);
        Check.same("the stack of the caller", stacks.isCut(), true);
    }

    private static int passedAtLast(String text) {
        ConventionInference x = Check.program("", "", "", "", "", "", "", text);
        return x.passedSlots(x.siteCount() - 1);
    }

    private static void missingSlots() {
        Check.sentence(24, "Returns the needed slots of the called function that are not passed at a call site.",
                "Returns the set of slots.");
        Check.same("none needed", Check.program("c1", "u0").missingSlots(0), 0);
        Check.same("all missing", Check.program("c1", "l3").missingSlots(0), 15);
        Check.same("all passed", Check.program("s0;s1;s2;s3;c1", "l3").missingSlots(0), 0);
        Check.same("the greatest missing", Check.program("s0;s1;s2;c1", "l3").missingSlots(0), 8);
        Check.same("the smallest missing", Check.program("s1;s2;s3;c1", "l3").missingSlots(0), 1);
        Check.same("needed below the load", Check.program("s1;c1", "l1").missingSlots(0), 1);
        Check.same("more than needed passed", Check.program("s2;s3;c1", "l1").missingSlots(0), 3);
        Check.same("one slot", Check.program("c1", "l0").missingSlots(0), 1);
        Check.same("of the called one, not of the caller", Check.program("l3;c1", "").missingSlots(0), 0);
        Ranges.sites(24, "missingSlots", (y, site, none) -> y.missingSlots(site));
    }

    private static void lostRegisters() {
        Check.sentence(25, "Returns the lost registers of a call site.", "Returns the set of registers.");
        ConventionInference x = Check.program("c1;u0;u7", "b2;d0;d7", "", "", "", "", "", "c1;u7");
        Check.same("0", x.lostRegisters(0), 129);
        Check.same("1", x.lostRegisters(1), 128);
        Check.same("all", Check.program("c1;u0;u1;u2;u3;u4;u5;u6;u7", "+0").lostRegisters(0), 255);
        Ranges.sites(25, "lostRegisters", (y, site, none) -> y.lostRegisters(site));
        Check.sentence(0, "The lost registers of a call site are those that are live behind the call,");
        Check.same("not live", Check.program("c1", "b1;d0").lostRegisters(0), 0);
        Check.same("written before it is read", Check.program("c1;d0;u0", "b1;d0").lostRegisters(0), 0);
        Check.same("live on one path", Check.program("c1;b1;u0", "b1;d0").lostRegisters(0), 1);
        Check.sentence(0, "and that the called function clobbers but does not surely define.");
        Check.same("clobbered", Check.program("c1;u0", "b1;d0").lostRegisters(0), 1);
        Check.same("surely defined", Check.program("c1;u0", "d0").lostRegisters(0), 0);
        Check.same("preserved", Check.program("c1;u0", "u0").lostRegisters(0), 0);
        Check.same("surely defined and preserved", Check.program("c1;u0", "+0;d0;-0").lostRegisters(0), 0);
        Check.same("an unbalanced one", Check.program("c1;u0;u1", "d0;+0").lostRegisters(0), 2);
    }

    private static void problems() {
        Check.sentence(27, "Returns the number of call sites that have missing slots or lost registers.",
                "Returns the number of call sites.");
        Check.same("no call sites", new ConventionInference().problems(), 0);
        Check.same("no problem", Check.program("c1;s0;c2", "d0", "l0").problems(), 0);
        Check.same("missing slots only", Check.program("c1", "l0").problems(), 1);
        Check.same("lost registers only", Check.program("c1;u0", "b1;d0").problems(), 1);
        Check.same("both at one", Check.program("c1;u0", "l0;b1;d0").problems(), 1);
        Check.same("one of each", Check.program("c1;c2;u0", "l0", "b1;d0").problems(), 2);
        Check.same("not reachable", Check.program("r;c1", "l0").problems(), 0);
        Check.same("104 of them", Ranges.inAll("l0" + ";c0".repeat(13)).problems(), 104);
    }

    private static void firstProblem() {
        Check.sentence(28, "Returns the first call site that has missing slots or lost registers.",
                "Returns the number of the call site.");
        Check.same("the only one", Check.program("c1", "l0").firstProblem(), 0);
        Check.same("the first of two", Check.program("c1;c1", "l0").firstProblem(), 0);
        Check.same("the last of three", Check.program("c2;c2;c1", "l0", "").firstProblem(), 2);
        Check.same("a lost register first", Check.program("c3;c2;u0;c1", "l0", "b1;d0").firstProblem(), 1);
        ConventionInference last = Ranges.inAll(FOURTEEN_CALLS);
        Check.body(last, 6, "l0");
        Check.body(last, 7, "c0" + ";c0".repeat(12) + ";c6");
        Check.same("the last of 98", last.firstProblem(), 97);
        Check.sentence(28, "Throws `NoSuchElementException` if there is none");
        Check.fails("no problem", NoSuchElementException.class, () -> Check.program("c1").firstProblem());
        ConventionInference changed = Check.program("c2;c1", "l0", "");
        Check.same("before a change", changed.firstProblem(), 1);
        changed.removeInstruction(0, 1);
        Check.fails("behind a change", NoSuchElementException.class, changed::firstProblem);
        Check.fails("no call sites", NoSuchElementException.class, () -> new ConventionInference().firstProblem());
        Check.fails("no reachable one", NoSuchElementException.class, () -> Check.program("r;c1", "l0").firstProblem());
    }

    private static void problemShare() {
        Check.sentence(36, "Returns the number of problems divided by the number of call sites, both converted to float.",
                "Returns the quotient.");
        Check.same("0 of 1", Check.program("c1").problemShare(), 0f);
        Check.same("1 of 1", Check.program("c1", "l0").problemShare(), 1f);
        Check.same("1 of 3", Check.program("c1;c2;c2", "l0").problemShare(), 1f / 3f);
        Check.same("2 of 3", Check.program("c1;c1;c2", "l0").problemShare(), 2f / 3f);
        Check.same("1 of 10", Check.program("c1" + ";c2".repeat(9), "l0").problemShare(), 0.1f);
        Check.same("104 of 104", Ranges.inAll("l0" + ";c0".repeat(13)).problemShare(), 1f);
        Check.sentence(36, "Throws `ArithmeticException` if there are no call sites");
        Check.fails("a new object", ArithmeticException.class, () -> new ConventionInference().problemShare());
        Check.fails("no reachable one", ArithmeticException.class, () -> Check.program("r;c1").problemShare());
        ConventionInference x = Check.program("c1");
        x.removeInstruction(0, 0);
        Check.fails("the only one was removed", ArithmeticException.class, x::problemShare);
    }
}
