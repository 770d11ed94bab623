import java.util.NoSuchElementException;

/** Promises 1 to 4: a new object, appendCharacter, setBody, faultPosition. */
public final class TextTest {
    public static void main(String[] args) {
        newObject();
        characters();
        fullText();
        goodTexts();
        faults();
        instructionLimit();
        textsAfterExceptions();
        Check.finish();
    }

    private static void newObject() {
        ConventionInference x = new ConventionInference();
        for (int function = 0; function < 8; function++) {
            Check.same("length", x.length(function), 0);
            Check.same("isBalanced", x.isBalanced(function), true);
            Check.same("preserved", x.preserved(function), 255);
            Check.same("surelyDefined", x.surelyDefined(function), 0);
            Check.same("arguments", x.arguments(function), 0);
            Check.same("results", x.results(function), 0);
            Check.same("neededSlots", x.neededSlots(function), 0);
            Check.same("isVariadic", x.isVariadic(function), false);
            Check.same("callees", x.callees(function), 0);
            Check.same("callersOf", x.callersOf(function), 0);
            Check.same("isRecursive", x.isRecursive(function), false);
            Check.same("run", x.run(function, -1), 0);
            Check.same("observed", x.observed(), 255);
        }
        Check.same("siteCount", x.siteCount(), 0);
        Check.same("problems", x.problems(), 0);
        Check.same("faultPosition", x.faultPosition(), -1);
        Check.fails("role", NoSuchElementException.class, () -> x.role(0));
        Check.fails("restore", IllegalStateException.class, x::restore);
        Check.same("the text is empty", x.appendCharacter('r'), 1);
    }

    private static void characters() {
        ConventionInference x = new ConventionInference();
        Check.same("appendCharacter(33)", x.appendCharacter(33), 1);
        Check.same("appendCharacter(126)", x.appendCharacter(126), 2);
        for (int character : new int[] {32, 127, 0, -1, 65536 + 117, 256 + 117, Integer.MIN_VALUE, Integer.MAX_VALUE}) {
            Check.fails("appendCharacter(" + character + ")", IllegalArgumentException.class,
                    () -> x.appendCharacter(character));
        }
        Check.same("appendCharacter(117)", x.appendCharacter(117), 3);
    }

    private static void fullText() {
        ConventionInference x = new ConventionInference();
        for (int i = 1; i <= 60; i++) {
            Check.same("appendCharacter", x.appendCharacter(i == 60 ? '#' : i % 2 == 1 ? 'r' : ';'), i);
        }
        Check.fails("appendCharacter at 60", IllegalStateException.class, () -> x.appendCharacter('r'));
        Check.fails("a wrong one at 60", IllegalArgumentException.class, () -> x.appendCharacter(127));
        Check.fails("setBody", IllegalArgumentException.class, () -> x.setBody(0));
        Check.same("the sign at 60 is the last", x.faultPosition(), 59);
        Check.same("appendCharacter behind setBody", x.appendCharacter('r'), 1);
    }

    private static void goodTexts() {
        ConventionInference x = new ConventionInference();
        String[] texts = {"", "r", "u0", "u7", "d0", "d7", "m00", "m77", "m07", "+0", "+7", "-0", "-7", "c0", "c7",
            "l0", "l3", "s0", "s3", "b1", "b9", "r;r", "m12;r;b9", "u1;d2;m34;+5;-6;c7;l0;s1;b2;r"};
        int[] counts = {0, 1, 1, 1, 1, 1, 1, 1, 1, 1, 1, 1, 1, 1, 1, 1, 1, 1, 1, 1, 1, 2, 3, 10};
        for (int i = 0; i < texts.length; i++) {
            Check.same("setBody of " + texts[i], Check.body(x, i % 8, texts[i]), counts[i]);
            Check.same("faultPosition of " + texts[i], x.faultPosition(), -1);
            Check.same("length of " + texts[i], x.length(i % 8), counts[i]);
        }
    }

    private static void faults() {
        String[] texts = {";", "x", "U0", "u", "u8", "u9", "ua", "u;", "d8", "d/", "+8", "-8", "c8", "m", "m0", "m8",
            "m08", "m0;", "l4", "s4", "l", "b0", "b:", "b", "r0", "rr", "u0u", "u00", "m000", "u0;", "r;", "u0;;",
            "u0;x", "r;;r", "0", "u0;u8", "u0;u", "u0,u1", "b10"};
        int[] positions = {0, 0, 0, 1, 1, 1, 1, 1, 1, 1, 1, 1, 1, 1, 2, 1,
            2, 2, 1, 1, 1, 1, 1, 1, 1, 1, 2, 2, 3, 3, 2, 3,
            3, 2, 0, 4, 4, 2, 2};
        ConventionInference x = Check.program("u1");
        for (int i = 0; i < texts.length; i++) {
            String text = texts[i];
            Check.fails("setBody of " + text, IllegalArgumentException.class, () -> Check.body(x, 0, text));
            Check.same("faultPosition of " + text, x.faultPosition(), positions[i]);
        }
        Check.same("the body stays", x.length(0), 1);
        Check.same("the body stays", x.operand(0, 0), 1);
        Check.body(x, 0, "");
        Check.same("faultPosition behind a good text", x.faultPosition(), -1);
    }

    private static void instructionLimit() {
        ConventionInference x = Check.program("u1");
        Check.same("14 instructions", Check.body(x, 0, "u0" + ";u0".repeat(13)), 14);
        Check.fails("15 instructions", IllegalStateException.class, () -> Check.body(x, 0, "d0" + ";d0".repeat(14)));
        Check.same("no fault", x.faultPosition(), -1);
        Check.fails("a fault at 59", IllegalArgumentException.class, () -> Check.body(x, 0, "r" + ";r".repeat(29) + ";"));
        Check.same("the text ends too early", x.faultPosition(), 60);
        Check.fails("30 instructions", IllegalStateException.class, () -> Check.body(x, 0, "r" + ";r".repeat(29)));
        Check.fails("15 and a fault", IllegalArgumentException.class, () -> Check.body(x, 0, "r" + ";r".repeat(14) + "r"));
        Check.same("faultPosition", x.faultPosition(), 29);
        Check.same("the body stays", x.length(0), 14);
        Check.same("the body stays", x.instruction(0, 0), 'u');
    }

    private static void textsAfterExceptions() {
        ConventionInference x = new ConventionInference();
        Check.fails("a fault", IllegalArgumentException.class, () -> Check.body(x, 0, "u0;x"));
        Check.write(x, "d3");
        Check.failsOutOfRange("setBody", x::setBody);
        Check.same("the fault position stays", x.faultPosition(), 3);
        Check.same("the text stays", x.setBody(7), 1);
        Check.same("the text was d3", x.operand(7, 0), 3);
        Check.fails("15 instructions", IllegalStateException.class, () -> Check.body(x, 0, "r" + ";r".repeat(14)));
        Check.same("the text is empty", x.appendCharacter('r'), 1);
        Check.fails("no character", IllegalArgumentException.class, () -> x.appendCharacter(0));
        Check.same("the text stays", x.appendCharacter('r'), 2);
        Check.fails("rr", IllegalArgumentException.class, () -> x.setBody(0));
        Check.same("the text is empty", x.setBody(0), 0);
    }
}
