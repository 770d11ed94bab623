/** The sentences of promises 1 to 4, and what the description says of texts. */
final class TextSentences {
    private static final String FULL = "r" + ";r".repeat(29) + ";";

    private TextSentences() {
    }

    static void check() {
        newObject();
        characters();
        textLimit();
        readingAndEmptying();
        emptiedByExceptions();
        setBodyRange();
        instructionCount();
        faultyTexts();
        tooManyInstructions();
        latestFault();
        noFault();
        separators();
        digits();
        firstFault();
        endsTooEarly();
    }

    private static void newObject() {
        Check.sentence(1, "Creates an analyzer with empty bodies.");
        ConventionInference other = Ranges.inAll("c0;d1");
        other.save();
        other.run(0, 0);
        ConventionInference x = new ConventionInference();
        for (int function = 0; function < 8; function++) {
            int number = function;
            Check.same("length(" + function + ")", x.length(function), 0);
            Check.fails("instruction", IndexOutOfBoundsException.class, () -> x.instruction(number, 0));
            Check.same("isBalanced(" + function + ")", x.isBalanced(function), true);
            Check.same("preserved(" + function + ")", x.preserved(function), 255);
            Check.same("surelyDefined(" + function + ")", x.surelyDefined(function), 0);
        }
        Check.same("siteCount()", x.siteCount(), 0);
        Check.same("faultPosition()", x.faultPosition(), -1);
        Check.fails("isCut()", IllegalStateException.class, x::isCut);
        Check.fails("restore()", IllegalStateException.class, x::restore);
        Check.same("setBody(0)", x.setBody(0), 0);
        Check.sentence(0, "at first all bodies are empty.");
        Check.same("length(7)", new ConventionInference().length(7), 0);
    }

    private static void characters() {
        Check.sentence(2, "- `character`: the character code, 33 to 126");
        for (int character = 33; character <= 126; character++) {
            Check.same("appendCharacter(" + character + ")", new ConventionInference().appendCharacter(character), 1);
        }
        Check.sentence(2, "Throws `IllegalArgumentException` if character is not from 33 to 126");
        ConventionInference x = new ConventionInference();
        Check.write(x, "u");
        for (int character : new int[] {32, 127, 31, 128, 0, -1, 9, 10, 255, 256 + '5', 65536 + '5', '5' - 65536, -'5',
            Integer.MIN_VALUE, Integer.MIN_VALUE + '5', Integer.MAX_VALUE}) {
            Check.fails("appendCharacter(" + character + ")", IllegalArgumentException.class,
                    () -> x.appendCharacter(character));
        }
        Check.same("the text stays", x.appendCharacter('4'), 2);
        Check.same("setBody", x.setBody(0), 1);
        Check.same("operand", x.operand(0, 0), 4);
        Check.sentence(2, "Appends a character to the text.");
        Check.same("m then 1 then 2", Check.body(x, 0, "m12"), 1);
        Check.same("operand", x.operand(0, 0), 12);
    }

    private static void textLimit() {
        Check.sentence(2, "Returns the new length of the text.");
        ConventionInference x = new ConventionInference();
        for (int i = 0; i < 60; i++) {
            Check.same("appendCharacter", x.appendCharacter(FULL.charAt(i)), i + 1);
        }
        Check.sentence(2, "Throws `IllegalStateException` if the text has 60 characters");
        for (int character : new int[] {33, 'r', 126}) {
            Check.fails("the 61st", IllegalStateException.class, () -> x.appendCharacter(character));
        }
        Check.fails("the 60 stay", IllegalArgumentException.class, () -> x.setBody(0));
        Check.same("the 60 stay", x.faultPosition(), 60);
        Check.sentence(0, "There is a text of at most 60 characters, which is empty at first.");
        Check.same("the text of a new object", new ConventionInference().setBody(0), 0);
        Check.same("the first behind a full text", x.appendCharacter('r'), 1);
        for (int i = 2; i <= 60; i++) {
            Check.same("appendCharacter again", x.appendCharacter('r'), i);
        }
        Check.fails("the 61st again", IllegalStateException.class, () -> x.appendCharacter('r'));
    }

    private static void readingAndEmptying() {
        Check.sentence(3, "Reads the text as a body text, makes it the body of a function, and empties the text.");
        ConventionInference x = Check.program("u1;u2;u3", "d1");
        Check.same("a shorter body", Check.body(x, 0, "d7"), 1);
        Check.same("length", x.length(0), 1);
        Check.same("instruction", x.instruction(0, 0), 'd');
        Check.same("a longer body", Check.body(x, 0, "l0;l1;l2;l3"), 4);
        Check.same("operand", x.operand(0, 3), 3);
        Check.same("the other body", x.instruction(1, 0), 'd');
        Check.same("the text is empty, and so is this body", x.setBody(1), 0);
        Check.same("length", x.length(1), 0);
        Check.same("the next character is the first", x.appendCharacter('r'), 1);
    }

    private static void emptiedByExceptions() {
        Check.sentence(3, "The text is emptied also if an exception is thrown, except for IndexOutOfBoundsException.");
        ConventionInference x = new ConventionInference();
        Check.fails("a fault", IllegalArgumentException.class, () -> Check.body(x, 0, "u0;u"));
        Check.same("empty behind a fault", x.appendCharacter('3'), 1);
        Check.fails("a fault at 0", IllegalArgumentException.class, () -> x.setBody(0));
        Check.same("empty behind a fault at 0", x.setBody(0), 0);
        Check.fails("15 instructions", IllegalStateException.class, () -> Check.body(x, 0, "r" + ";r".repeat(14)));
        Check.same("empty behind 15", x.appendCharacter('r'), 1);
        Check.fails("no function", IndexOutOfBoundsException.class, () -> x.setBody(8));
        Check.fails("no function", IndexOutOfBoundsException.class, () -> x.setBody(-1));
        Check.same("not empty without a function", x.appendCharacter(';'), 2);
        Check.same("not empty without a function", x.appendCharacter('r'), 3);
        Check.same("r;r", x.setBody(7), 2);
        Check.write(x, FULL);
        Check.fails("no function for a full text", IndexOutOfBoundsException.class, () -> x.setBody(8));
        Check.fails("still full", IllegalStateException.class, () -> x.appendCharacter('r'));
        Check.fails("a fault in a full text", IllegalArgumentException.class, () -> x.setBody(7));
        Check.same("empty behind a full text", x.appendCharacter('r'), 1);
    }

    private static void setBodyRange() {
        Ranges.functions(3, "setBody", function -> Check.program("u1").setBody(function));
        Check.sentence(0, "There are 8 functions and 8 registers, numbered from 0.");
        ConventionInference x = new ConventionInference();
        for (int function = 0; function < 8; function++) {
            Check.body(x, function, "d" + function);
        }
        for (int function = 0; function < 8; function++) {
            Check.same("operand(" + function + ", 0)", x.operand(function, 0), function);
            Check.same("surelyDefined(" + function + ")", x.surelyDefined(function), 1 << function);
        }
    }

    private static void instructionCount() {
        Check.sentence(3, "Returns the number of instructions.");
        ConventionInference x = new ConventionInference();
        Check.same("none", x.setBody(0), 0);
        for (int count = 1; count <= 14; count++) {
            Check.same("setBody", Check.body(x, 0, "m00" + ";m00".repeat(count - 1)), count);
        }
        Check.sentence(0, "Each function has a body of at most 14 instructions, numbered from 0;");
        ConventionInference full = Ranges.inAll("u0" + ";u0".repeat(12) + ";d7");
        for (int function = 0; function < 8; function++) {
            Check.same("instruction 0", full.instruction(function, 0), 'u');
            Check.same("instruction 13", full.instruction(function, 13), 'd');
        }
    }

    private static void faultyTexts() {
        Check.sentence(3, "Throws `IllegalArgumentException` if the text has a fault");
        ConventionInference x = Check.program("u1;u2");
        for (String text : new String[] {";", "u", "m1", "u0;", "rr", "u8", "R", FULL, "r" + ";r".repeat(28) + ";x",
            "r" + ";r".repeat(13) + ";"}) {
            Check.fails("setBody of " + text, IllegalArgumentException.class, () -> Check.body(x, 0, text));
        }
        Check.same("the body stays", x.length(0), 2);
        Check.same("the body stays", x.operand(0, 1), 2);
    }

    private static void tooManyInstructions() {
        Check.sentence(3, "Throws `IllegalStateException` if it has more than 14 instructions");
        for (int count : new int[] {15, 16, 20, 29, 30}) {
            ConventionInference x = Check.program("u1;u2");
            Check.fails(count + " instructions", IllegalStateException.class,
                    () -> Check.body(x, 0, "r" + ";r".repeat(count - 1)));
            Check.same("the body stays", x.length(0), 2);
            Check.same("the body stays", x.instruction(0, 0), 'u');
            Check.same("14 instructions", Check.body(x, 0, "r" + ";r".repeat(13)), 14);
        }
        ConventionInference longest = new ConventionInference();
        Check.same("the longest body", Check.body(longest, 0, "m77" + ";m77".repeat(13)), 14);
        Check.fails("15 moves", IllegalStateException.class, () -> Check.body(longest, 0, "m77" + ";m77".repeat(14)));
    }

    private static void latestFault() {
        Check.sentence(4, "Returns the fault position of the text that was read by the latest call of setBody that did not"
                + " throw IndexOutOfBoundsException.");
        ConventionInference x = new ConventionInference();
        Check.fails("a fault", IllegalArgumentException.class, () -> Check.body(x, 0, "u0;x"));
        Check.same("faultPosition", x.faultPosition(), 3);
        Check.write(x, "u0");
        Check.same("behind appendCharacter", x.faultPosition(), 3);
        Check.fails("no function", IndexOutOfBoundsException.class, () -> x.setBody(8));
        Check.same("behind no function", x.faultPosition(), 3);
        x.setBody(1);
        Check.same("behind a good text", x.faultPosition(), -1);
        Check.fails("another fault", IllegalArgumentException.class, () -> Check.body(x, 0, "u"));
        Check.same("behind another fault", x.faultPosition(), 1);
        x.removeInstruction(1, 0);
        x.save();
        x.restore();
        x.run(0, 0);
        Check.same("behind other calls", x.faultPosition(), 1);
        x.setBody(0);
        Check.same("behind an empty text", x.faultPosition(), -1);
    }

    private static void noFault() {
        Check.sentence(4, "Returns the fault position, or -1 if the text had no fault or there was no such call.");
        ConventionInference x = new ConventionInference();
        Check.same("no call", x.faultPosition(), -1);
        Check.write(x, "x");
        Check.same("a text that was not read", x.faultPosition(), -1);
        Check.fails("no function", IndexOutOfBoundsException.class, () -> x.setBody(-1));
        Check.same("only a call without a function", x.faultPosition(), -1);
        Check.fails("a fault", IllegalArgumentException.class, () -> x.setBody(0));
        Check.same("a fault at 0", x.faultPosition(), 0);
        Check.fails("15", IllegalStateException.class, () -> Check.body(x, 0, "r" + ";r".repeat(14)));
        Check.same("15 instructions are no fault", x.faultPosition(), -1);
    }

    private static void separators() {
        Check.sentence(0, "A body text is empty or consists of one or more instructions with a \";\" between two of them.");
        Check.same("empty", faultOf(""), -1);
        Check.same("one", faultOf("u0"), -1);
        Check.same("two", faultOf("u0;u0"), -1);
        Check.same("a \";\" alone", faultOf(";"), 0);
        Check.same("a \";\" before", faultOf(";u0"), 0);
        Check.same("a \";\" behind", faultOf("u0;"), 3);
        Check.same("two of them", faultOf("u0;;u0"), 3);
        for (char sign = 33; sign <= 126; sign++) {
            Check.same("between " + sign, faultOf("u0" + sign + "u0"), sign == ';' ? -1 : 2);
        }
        Check.sentence(0, "The instructions are:");
        for (char sign = 33; sign <= 126; sign++) {
            Check.same("first " + sign, faultOf("" + sign), sign == 'r' ? -1 : "udm+-clsb".indexOf(sign) >= 0 ? 1 : 0);
            Check.same("second " + sign, faultOf("u0;" + sign), sign == 'r' ? -1 : "udm+-clsb".indexOf(sign) >= 0 ? 4 : 3);
        }
    }

    private static void digits() {
        Check.sentence(0, "An instruction is its character, followed by a digit from 0 to 7 for u, d, +, - and c;");
        for (char kind : "ud+-c".toCharArray()) {
            digit("" + kind, "", '0', '7');
        }
        Check.sentence(0, "two such digits, the first and the second register, for m;");
        digit("m", "0", '0', '7');
        digit("m", "7", '0', '7');
        digit("m0", "", '0', '7');
        digit("m7", "", '0', '7');
        ConventionInference x = Check.program("m25");
        x.run(0, 0);
        Check.same("the first is written", x.origin(2), 5);
        Check.same("the second is not", x.origin(5), 5);
        Check.sentence(0, "a digit from 0 to 3 for l and s;");
        digit("l", "", '0', '3');
        digit("s", "", '0', '3');
        Check.sentence(0, "a digit from 1 to 9 for b;");
        digit("b", "", '1', '9');
        Check.sentence(0, "and nothing for r.");
        for (char sign = 33; sign <= 126; sign++) {
            Check.same("behind r " + sign, faultOf("r" + sign), sign == ';' ? 2 : 1);
        }
    }

    /** Each sign between the beginning and the rest: from low to high it is a digit, else the fault. */
    private static void digit(String beginning, String rest, char low, char high) {
        for (char sign = 33; sign <= 126; sign++) {
            String text = beginning + sign + rest;
            Check.same("faultOf " + text, faultOf(text), sign >= low && sign <= high ? -1 : beginning.length());
        }
    }

    private static void firstFault() {
        Check.sentence(0, "The fault position of a text is the index of the first character that cannot continue a body text;");
        Check.same("the first of many", faultOf("u0;x;y;u9"), 3);
        Check.same("the first of two neighbours", faultOf("u88"), 1);
        Check.same("at the last of 60", faultOf("r" + ";r".repeat(28) + ";rr"), 59);
        Check.same("at the first of 60", faultOf(";".repeat(60)), 0);
        Check.same("behind 14 instructions", faultOf("r" + ";r".repeat(13) + "r"), 27);
        Check.same("behind 15 instructions", faultOf("r" + ";r".repeat(14) + "?"), 29);
        Check.same("in instruction 15", faultOf("r" + ";r".repeat(13) + ";u8"), 29);
        for (int before = 0; before < 30; before++) {
            Check.same("behind " + before, faultOf("r;".repeat(before) + "!"), 2 * before);
        }
    }

    private static void endsTooEarly() {
        Check.sentence(0, "it is the length of the text if the text ends too early.");
        for (char kind : "udm+-clsb".toCharArray()) {
            Check.same("only " + kind, faultOf("" + kind), 1);
            Check.same("r;" + kind, faultOf("r;" + kind), 3);
        }
        Check.same("m with one digit", faultOf("m0"), 2);
        for (int count = 1; count <= 30; count++) {
            Check.same("a \";\" at the end", faultOf("r;".repeat(count)), 2 * count);
        }
        Check.same("59 signs", faultOf("r;".repeat(29) + "u"), 59);
        Check.same("60 signs", faultOf("r;".repeat(29) + "m0"), 60);
    }

    /** Reads a text with a new object; checks that setBody refuses what has a fault and the rest not for that. */
    private static int faultOf(String text) {
        ConventionInference x = new ConventionInference();
        Check.write(x, text);
        Class<?> thrown = null;
        try {
            x.setBody(0);
        } catch (RuntimeException e) {
            thrown = e.getClass();
        }
        Check.same("setBody refuses " + text, thrown == IllegalArgumentException.class, x.faultPosition() >= 0);
        return x.faultPosition();
    }
}
