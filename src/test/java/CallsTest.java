/** Promises 16 to 25: slots, variadic functions, callees and callers, call sites, lost registers. */
public final class CallsTest {
    public static void main(String[] args) {
        neededSlots();
        callersAndCallees();
        recursive();
        sites();
        passedSlots();
        missingSlots();
        variadic();
        lostRegisters();
        wrongFunctions();
        wrongSites();
        Check.finish();
    }

    private static void neededSlots() {
        String[] texts = {"", "u3", "l0", "l1", "l2", "l3", "l3;l0", "l0;l2;l1", "r;l3", "b1;l2;l1", "s3", "b9;l3"};
        int[] counts = {0, 0, 1, 2, 3, 4, 4, 3, 0, 3, 0, 4};
        for (int i = 0; i < texts.length; i++) {
            Check.same("neededSlots of " + texts[i], Check.program(texts[i]).neededSlots(0), counts[i]);
        }
        Check.same("not those of called ones", Check.program("c1", "l3").neededSlots(0), 0);
    }

    private static void callersAndCallees() {
        ConventionInference x = Check.program("c1;c7;c1", "c0;r;c2", "b1;c3", "", "c4");
        Check.same("callees(0)", x.callees(0), 130);
        Check.same("callees(1)", x.callees(1), 1);
        Check.same("callees(2)", x.callees(2), 8);
        Check.same("callees(3)", x.callees(3), 0);
        Check.same("callees(4)", x.callees(4), 16);
        Check.same("callersOf(0)", x.callersOf(0), 2);
        Check.same("callersOf(1)", x.callersOf(1), 1);
        Check.same("callersOf(2)", x.callersOf(2), 0);
        Check.same("callersOf(3)", x.callersOf(3), 4);
        Check.same("callersOf(4)", x.callersOf(4), 16);
        Check.same("callersOf(7)", x.callersOf(7), 1);
        x.removeInstruction(0, 1);
        Check.same("callees(0) then", x.callees(0), 2);
        Check.same("callersOf(7) then", x.callersOf(7), 0);
    }

    private static void recursive() {
        ConventionInference x = Check.program("c1", "c2", "c3", "c4", "c5", "c6", "c7", "c0");
        for (int function = 0; function < 8; function++) {
            Check.same("a ring of 8", x.isRecursive(function), true);
        }
        Check.body(x, 7, "c1");
        Check.same("0 is out", x.isRecursive(0), false);
        Check.same("1 is in", x.isRecursive(1), true);
        Check.body(x, 7, "r;c1");
        Check.same("1 is out", x.isRecursive(1), false);
        Check.same("itself", Check.program("b1;c0").isRecursive(0), true);
        Check.same("itself behind a return", Check.program("r;c0").isRecursive(0), false);
        Check.same("a call of a recursive one", Check.program("c1", "c1").isRecursive(0), false);
        ConventionInference back = Check.program("c7", "c0", "c1", "c2", "c3", "c4", "c5", "c6");
        Check.same("a ring of 8 downwards", back.isRecursive(3), true);
    }

    private static void sites() {
        ConventionInference x = Check.program("u1;c3;c0", "", "b2;c7;r;c6;r;c5", "c2");
        int[][] due = {{0, 1, 3}, {0, 2, 0}, {2, 1, 7}, {2, 3, 6}, {3, 0, 2}};
        Check.same("siteCount", x.siteCount(), 5);
        for (int site = 0; site < 5; site++) {
            for (int part = 0; part < 3; part++) {
                Check.same("site(" + site + ", " + part + ")", x.site(site, part), due[site][part]);
            }
        }
        String full = "c0" + ";c0".repeat(13);
        ConventionInference most = Check.program(full, full, full, full, full, full, full, full);
        Check.same("siteCount of most", most.siteCount(), 112);
        Check.same("site(111, 0)", most.site(111, 0), 7);
        Check.same("site(111, 1)", most.site(111, 1), 13);
        Check.fails("site(112, 0)", IndexOutOfBoundsException.class, () -> most.site(112, 0));
    }

    private static void passedSlots() {
        String[] texts = {"c1", "s0;c1", "s3;s1;c1", "s0;c1;c1", "s0;c1;s2;c1", "b1;s0;c1", "s1;b1;s0;c1", "b2;s0;r;s1;c1",
            "b2;s0;b1;s0;c1", "s0;b1;c1;c1", "s0;b1;c1;s1;c1", "c1;s0"};
        int[] last = {0, 1, 10, 0, 4, 0, 2, 2,
            1, 0, 2, 0};
        for (int i = 0; i < texts.length; i++) {
            ConventionInference x = Check.program(texts[i]);
            Check.same("passedSlots in " + texts[i], x.passedSlots(x.siteCount() - 1), last[i]);
        }
    }

    private static void missingSlots() {
        ConventionInference x = Check.program("c1;s0;c1;s1;c1;s3;c1;c2", "l1", "u0", "s0;s1;s2;c4;s2;c4", "l3;r");
        int[] due = {3, 2, 1, 3, 0, 8, 11};
        for (int site = 0; site < due.length; site++) {
            Check.same("missingSlots(" + site + ")", x.missingSlots(site), due[site]);
        }
    }

    private static void variadic() {
        Check.same("the same", Check.program("s0;c1;s0;c1", "").isVariadic(1), false);
        Check.same("different in one body", Check.program("s0;c1;s1;c1", "").isVariadic(1), true);
        Check.same("different in two", Check.program("s0;c2", "c2", "").isVariadic(2), true);
        Check.same("different at another", Check.program("s0;c1;c2", "", "").isVariadic(1), false);
        Check.same("the third differs", Check.program("c1;c1;s2;c1", "").isVariadic(1), true);
        Check.same("an unreachable one differs", Check.program("c1;r;s0;c1", "").isVariadic(1), false);
        Check.same("one call", Check.program("s0;c1", "").isVariadic(1), false);
        Check.same("no call", Check.program("s0;c1", "").isVariadic(0), false);
    }

    private static void lostRegisters() {
        ConventionInference x = Check.program("c1;u0;u1;u2", "d0;b1;d1", "c3;u4", "-1", "c5;u5", "+5;b1;d5;-5");
        Check.same("not surely defined", x.lostRegisters(0), 2);
        Check.same("of an unbalanced one", x.lostRegisters(1), 16);
        Check.same("preserved", x.lostRegisters(2), 0);
        Check.same("dead", Check.program("c1", "b1;d1").lostRegisters(0), 0);
        Check.same("written before it is read", Check.program("c1;d1;u1", "b1;d1").lostRegisters(0), 0);
    }

    private static void wrongFunctions() {
        ConventionInference x = Check.program("c1");
        Check.failsOutOfRange("neededSlots", x::neededSlots);
        Check.failsOutOfRange("isVariadic", x::isVariadic);
        Check.failsOutOfRange("callees", x::callees);
        Check.failsOutOfRange("callersOf", x::callersOf);
        Check.failsOutOfRange("isRecursive", x::isRecursive);
    }

    private static void wrongSites() {
        ConventionInference x = Check.program("c1;r;c1");
        for (int site : new int[] {-1, 1, 2, 112, Integer.MIN_VALUE, Integer.MAX_VALUE}) {
            Check.fails("site", IndexOutOfBoundsException.class, () -> x.site(site, 0));
            Check.fails("site with a wrong part", IndexOutOfBoundsException.class, () -> x.site(site, 3));
            Check.fails("passedSlots", IndexOutOfBoundsException.class, () -> x.passedSlots(site));
            Check.fails("missingSlots", IndexOutOfBoundsException.class, () -> x.missingSlots(site));
            Check.fails("lostRegisters", IndexOutOfBoundsException.class, () -> x.lostRegisters(site));
        }
        for (int part : new int[] {-1, 3, Integer.MIN_VALUE, Integer.MAX_VALUE}) {
            Check.fails("site(0, " + part + ")", IllegalArgumentException.class, () -> x.site(0, part));
        }
        Check.fails("no sites", IndexOutOfBoundsException.class, () -> new ConventionInference().site(0, 0));
        Check.fails("no sites", IndexOutOfBoundsException.class, () -> new ConventionInference().passedSlots(0));
    }
}
