/** The sentences of promises 37 and 38. */
final class SaveSentences {
    private static final String[] FOURTEENS = {"u0" + ";u1".repeat(13), "d0" + ";d1".repeat(13), "m01" + ";m23".repeat(13),
        "r" + ";r".repeat(13), "c0" + ";c7".repeat(13), "l0" + ";s3".repeat(13), "b1" + ";b9".repeat(13), "+0" + ";-7".repeat(13)};

    private SaveSentences() {
    }

    static void check() {
        saving();
        restoring();
        staySaved();
        nothingSaved();
    }

    private static void saving() {
        Check.sentence(37, "Saves all bodies, in place of what was saved before.");
        ConventionInference x = Check.program("u1", "u2");
        x.save();
        Check.same("the bodies stay", x.operand(0, 0), 1);
        Check.body(x, 0, "d3;d4");
        Check.body(x, 1, "");
        Check.body(x, 7, "r");
        x.save();
        Check.body(x, 0, "u5");
        x.restore();
        Check.same("length(0)", x.length(0), 2);
        Check.same("operand(0, 1)", x.operand(0, 1), 4);
        Check.same("length(1)", x.length(1), 0);
        Check.same("instruction(7, 0)", x.instruction(7, 0), 'r');
        Check.same("what is saved is not the bodies themselves", x.removeInstruction(0, 0), 1);
        x.restore();
        Check.same("what is saved is not the bodies themselves", x.operand(0, 0), 3);
        ConventionInference empty = new ConventionInference();
        empty.save();
        Check.body(empty, 3, "u0");
        empty.restore();
        Check.same("empty bodies are saved, too", empty.length(3), 0);
    }

    private static void restoring() {
        Check.sentence(38, "Restores all bodies as they were saved last.");
        for (int first = 0; first < 8; first += 4) {
            restoredFrom(first);
        }
        ConventionInference text = Check.program("u1");
        text.save();
        Check.fails("a fault", IllegalArgumentException.class, () -> Check.body(text, 0, "u0;x"));
        Check.write(text, "d");
        text.restore();
        Check.same("only bodies: the text stays", text.appendCharacter('6'), 2);
        Check.same("only bodies: the fault position stays", text.faultPosition(), 3);
        Check.same("only bodies: the text stays", text.setBody(0), 1);
        Check.same("only bodies: the text stays", text.operand(0, 0), 6);
    }

    /** Four functions at a time, so that no object is asked more than 512 times. */
    private static void restoredFrom(int first) {
        ConventionInference x = new ConventionInference();
        ConventionInference same = new ConventionInference();
        for (int function = first; function < first + 4; function++) {
            Check.body(x, function, FOURTEENS[function]);
            Check.body(same, function, FOURTEENS[function]);
        }
        x.save();
        for (int function = first; function < first + 4; function++) {
            Check.body(x, function, "l2" + ";l1".repeat(13));
        }
        x.restore();
        Check.same("siteCount()", x.siteCount(), same.siteCount());
        for (int function = first; function < first + 4; function++) {
            Check.same("length(" + function + ")", x.length(function), 14);
            Check.same("preserved(" + function + ")", x.preserved(function), same.preserved(function));
            for (int index : new int[] {0, 1, 13}) {
                String what = "(" + function + ", " + index + ")";
                Check.same("instruction" + what, x.instruction(function, index), same.instruction(function, index));
                if (same.instruction(function, index) != 'r') {
                    Check.same("operand" + what, x.operand(function, index), same.operand(function, index));
                }
            }
        }
    }

    private static void staySaved() {
        Check.sentence(38, "They stay saved.");
        ConventionInference x = Check.program("u1;u2");
        x.save();
        for (int round = 0; round < 3; round++) {
            x.removeInstruction(0, 0);
            x.removeInstruction(0, 0);
            Check.body(x, 5, "r");
            x.restore();
            Check.same("length(0)", x.length(0), 2);
            Check.same("length(5)", x.length(5), 0);
        }
        x.restore();
        Check.same("twice at once", x.operand(0, 1), 2);
    }

    private static void nothingSaved() {
        Check.sentence(38, "Throws `IllegalStateException` if nothing was saved");
        Check.fails("a new object", IllegalStateException.class, () -> new ConventionInference().restore());
        ConventionInference x = Check.program("u1");
        Check.fails("bodies, but not saved", IllegalStateException.class, x::restore);
        Check.fails("again", IllegalStateException.class, x::restore);
        Check.same("the body stays", x.length(0), 1);
        x.save();
        Check.answers("restore", x::restore);
        Check.answers("restore again", x::restore);
        Check.fails("another object", IllegalStateException.class, () -> Check.program("u1").restore());
    }
}
