/** What the project's tests share: a mill with its texts, and the comparison of answers. */
final class Due {
    /** How an exception is told where an answer is due. */
    static final String ILLEGAL_STATE = "IllegalStateException";
    static final String ILLEGAL_ARGUMENT = "IllegalArgumentException";
    static final String NO_ELEMENT = "NoSuchElementException";
    static final String NO_INDEX = "IndexOutOfBoundsException";
    static final String UNSUPPORTED = "UnsupportedOperationException";

    private static int asked = 0;
    private static int wrong = 0;

    private Due() {
    }

    /** A call whose answer is asked. */
    interface Call {
        long answer();
    }

    static void is(String what, Call call, Object due) {
        String got;
        try {
            got = Long.toString(call.answer());
        } catch (RuntimeException thrown) {
            got = thrown.getClass().getSimpleName();
        }
        same(what, got, due.toString());
    }

    static void same(String what, String got, String due) {
        asked++;
        if (!got.equals(due)) {
            wrong++;
            System.out.println(what + " answered " + got + ", due is " + due);
        }
    }

    /** The mill's text becomes this one, four signs a call. */
    static void write(ToolMill mill, String text) {
        mill.end(0);
        for (int i = 0; i < text.length(); i += 4) {
            int signs = 0;
            for (int k = 0; k < 4 && i + k < text.length(); k++) {
                signs |= text.charAt(i + k) << 8 * k;
            }
            mill.put(signs);
        }
    }

    static int source(ToolMill mill, String text) {
        write(mill, text);
        return mill.source();
    }

    static int assemble(ToolMill mill, String text) {
        write(mill, text);
        return mill.assemble();
    }

    static String typed(ToolMill mill, int unit) {
        StringBuilder text = new StringBuilder();
        for (int k = 0; mill.typed(unit, k) != ToolMill.NONE; k++) {
            text.append((char) mill.typed(unit, k));
        }
        return text.toString();
    }

    static String listing(ToolMill mill, int word) {
        StringBuilder text = new StringBuilder();
        for (int k = 0; mill.listing(word, k) != ToolMill.NONE; k++) {
            text.append((char) mill.listing(word, k));
        }
        return text.toString();
    }

    /** The words of a section of an object, as text. */
    static String listing(ToolMill mill, int unit, int section) {
        StringBuilder text = new StringBuilder();
        for (int place = 0; place + 3 < mill.section(unit, section, 1); place += 4) {
            int word = 0;
            for (int k = 0; k < 4; k++) {
                word |= mill.byteOf(unit, section, place + k) << 8 * k;
            }
            text.append(listing(mill, word));
        }
        return text.toString();
    }

    /** All relocations of a unit, a line each: section place sort target number line name. */
    static String relocations(ToolMill mill, int unit) {
        StringBuilder text = new StringBuilder();
        for (int i = 0; i < mill.unit(unit, 3); i++) {
            for (int what = 0; what < 6; what++) {
                text.append(mill.relocation(unit, i, what)).append(' ');
            }
            for (int k = 0; mill.relocation(unit, i, 10 + k) != ToolMill.NONE; k++) {
                text.append((char) mill.relocation(unit, i, 10 + k));
            }
            text.append('\n');
        }
        return text.toString();
    }

    /** A text in assembly and its fault: kind and line; kind 0 has none. */
    static void line(String text, int kind, int line) {
        ToolMill mill = new ToolMill();
        String what = "assemble() of " + shown(text);
        is(what, () -> assemble(mill, text), kind == 0 ? 0 : -1);
        is("kind of " + what, () -> mill.fault(0), kind);
        is("line of " + what, () -> mill.fault(1), kind == 0 ? -1 : line);
        is("unit of " + what, () -> mill.fault(2), -1);
    }

    /** A text in the language and its fault: kind and place; kind 0 has none. */
    static void place(String text, int kind, int place) {
        ToolMill mill = new ToolMill();
        String what = "source() of " + shown(text);
        is(what, () -> source(mill, text), kind == 0 ? 0 : -1);
        is("kind of " + what, () -> mill.fault(0), kind);
        is("place of " + what, () -> mill.fault(1), kind == 0 ? -1 : place);
        is("unit of " + what, () -> mill.fault(2), -1);
    }

    /** The words of the first section of a text in assembly. */
    static void words(String text, String due) {
        ToolMill mill = new ToolMill();
        String what = shown(text);
        if (assemble(mill, text) != 0) {
            same("assemble() of " + what, "fault " + mill.fault(0) + " in line " + mill.fault(1), "no fault");
            return;
        }
        same("words of " + what, listing(mill, 0, 0).replace("\n", " / "), due.isEmpty() ? "" : due + " / ");
    }

    /** The relocations of a text in assembly. */
    static void uses(String text, String due) {
        ToolMill mill = new ToolMill();
        String what = shown(text);
        if (assemble(mill, text) != 0) {
            same("assemble() of " + what, "fault " + mill.fault(0) + " in line " + mill.fault(1), "no fault");
            return;
        }
        same("relocations of " + what, relocations(mill, 0).replace("\n", " / "), due);
    }

    static String shown(String text) {
        String line = text.replace("\n", " / ");
        return line.length() < 100 ? line : line.substring(0, 100) + "..";
    }

    static String many(String text, int times) {
        return text.repeat(times);
    }

    /** Ends the test, with exit code 1 if an answer was wrong. */
    static void finish(String test) {
        System.out.println(test + ": " + asked + " answers, " + wrong + " not as due");
        if (wrong != 0) {
            System.exit(1);
        }
    }
}
