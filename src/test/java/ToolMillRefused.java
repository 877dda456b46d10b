import java.util.ArrayList;
import java.util.List;

/** Each refused call throws what the document names first, and changes nothing: a twin that never made it answers the same. */
public final class ToolMillRefused {
    private static final int FAR = Integer.MAX_VALUE;
    private static final int BEFORE = Integer.MIN_VALUE;

    /** A call of the face that may throw. */
    private interface Ask {
        long of(ToolMill mill);
    }

    private final ToolMill mill = new ToolMill();
    private final ToolMill twin = new ToolMill();
    private final String state;
    /** What the twin answers to all, asked anew behind each call that both do. */
    private String due;

    private ToolMillRefused(String state) {
        this.state = state;
    }

    /** A call that both do. */
    private void both(Ask ask) {
        Due.is(state + ": a call that both do", () -> ask.of(mill), ask.of(twin));
        due = null;
    }

    private void text(String text) {
        Due.write(mill, text);
        Due.write(twin, text);
        due = null;
    }

    private void refused(String call, Ask ask, String thrown) {
        due = due == null ? all(twin) : due;
        Due.is(state + ": " + call, () -> ask.of(mill), thrown);
        Due.same(state + ": all answers behind " + call, all(mill), due);
    }

    private static void tell(StringBuilder to, Due.Call call) {
        try {
            to.append(call.answer());
        } catch (RuntimeException thrown) {
            to.append(thrown.getClass().getSimpleName());
        }
        to.append(' ');
    }

    /** All that can be asked of a mill without changing it. */
    private static String all(ToolMill mill) {
        StringBuilder to = new StringBuilder();
        tell(to, () -> mill.put(0));
        for (int what = 0; what < 12; what++) {
            int k = what;
            tell(to, () -> mill.fault(k));
            tell(to, () -> mill.state(k));
            tell(to, () -> mill.meant(k));
            tell(to, () -> mill.output(k));
            tell(to, () -> mill.said(k));
        }
        for (int r = 0; r < 32; r++) {
            int k = r;
            tell(to, () -> mill.register(k));
        }
        for (int address = 0; address < 1200; address += 4) {
            int k = address;
            tell(to, () -> mill.word(k));
        }
        for (int unit = 0; unit < 7; unit++) {
            allOfUnit(to, mill, unit);
        }
        return to.toString();
    }

    private static void allOfUnit(StringBuilder to, ToolMill mill, int unit) {
        for (int what = 0; what < 5; what++) {
            int k = what;
            tell(to, () -> mill.unit(unit, k));
        }
        List<Due.Call> calls = new ArrayList<>();
        for (int i = 0; i < 5; i++) {
            int k = i;
            for (int what = 0; what < 12; what++) {
                int w = what;
                calls.add(() -> mill.section(unit, k, w));
                calls.add(() -> mill.label(unit, k, w));
                calls.add(() -> mill.relocation(unit, k, w));
                calls.add(() -> mill.byteOf(unit, k, w - 6));
            }
        }
        for (int k = 0; k < 90; k++) {
            int at = k;
            calls.add(() -> mill.typed(unit, at));
        }
        for (Due.Call call : calls) {
            tell(to, call);
        }
    }

    private static long end(ToolMill mill, int n) {
        mill.end(n);
        return 0;
    }

    private static long forget(ToolMill mill) {
        mill.forget();
        return 0;
    }

    /** Calls that are refused whatever the object is like. */
    private void always(int signs) {
        refused("put() of 1", m -> m.put(1), Due.ILLEGAL_ARGUMENT);
        refused("put() of 9 behind good signs", m -> m.put(0x09414141), Due.ILLEGAL_ARGUMENT);
        refused("put() of 127 ahead of good signs", m -> m.put(0x4141417F), Due.ILLEGAL_ARGUMENT);
        refused("put() of 128", m -> m.put(0x00800000), Due.ILLEGAL_ARGUMENT);
        refused("put() of -1", m -> m.put(-1), Due.ILLEGAL_ARGUMENT);
        refused("end(-1)", m -> end(m, -1), Due.ILLEGAL_ARGUMENT);
        refused("end() below all", m -> end(m, BEFORE), Due.ILLEGAL_ARGUMENT);
        refused("end() one above", m -> end(m, signs + 1), Due.ILLEGAL_ARGUMENT);
        refused("end() far above", m -> end(m, FAR), Due.ILLEGAL_ARGUMENT);
        for (int what : new int[] {-1, 3, FAR, BEFORE}) {
            refused("fault(" + what + ")", m -> m.fault(what), Due.ILLEGAL_ARGUMENT);
        }
        refused("listing() of k below 0", m -> m.listing(0, -1), Due.NO_INDEX);
        refused("listing() of k far below 0", m -> m.listing(-1, BEFORE), Due.NO_INDEX);
        for (int unit : new int[] {-1, 7, FAR, BEFORE}) {
            noUnit(unit);
        }
        ofUnit(6, 3, 4, 1);
        refused("typed() of the runtime", m -> m.typed(6, 0), Due.NO_ELEMENT);
    }

    /** All that asks for a unit that isn't there, also with other things that are wrong. */
    private void noUnit(int unit) {
        refused("typed(" + unit + ", 0)", m -> m.typed(unit, 0), Due.NO_ELEMENT);
        refused("typed(" + unit + ", -1)", m -> m.typed(unit, -1), Due.NO_ELEMENT);
        refused("unit(" + unit + ", 0)", m -> m.unit(unit, 0), Due.NO_ELEMENT);
        refused("unit(" + unit + ", 5)", m -> m.unit(unit, 5), Due.NO_ELEMENT);
        refused("section(" + unit + ", 0, 0)", m -> m.section(unit, 0, 0), Due.NO_ELEMENT);
        refused("section(" + unit + ", 0, 4)", m -> m.section(unit, 0, 4), Due.NO_ELEMENT);
        refused("byteOf(" + unit + ", 0, 0)", m -> m.byteOf(unit, 0, -1), Due.NO_ELEMENT);
        refused("label(" + unit + ", 0, 0)", m -> m.label(unit, 0, 0), Due.NO_ELEMENT);
        refused("label(" + unit + ", 0, 4)", m -> m.label(unit, 0, 4), Due.NO_ELEMENT);
        refused("relocation(" + unit + ", 0, 0)", m -> m.relocation(unit, 0, 0), Due.NO_ELEMENT);
        refused("relocation(" + unit + ", 0, 6)", m -> m.relocation(unit, 0, 6), Due.NO_ELEMENT);
    }

    /** What is refused of a unit that is there, by how many sections, labels and relocations it has. */
    private void ofUnit(int unit, int sections, int labels, int relocations) {
        String of = "(" + unit + ", ";
        for (int what : new int[] {-1, 5, FAR, BEFORE}) {
            refused("unit" + of + what + ")", m -> m.unit(unit, what), Due.ILLEGAL_ARGUMENT);
        }
        for (int what : new int[] {-1, 4, 10, FAR, BEFORE}) {
            refused("section" + of + "0, " + what + ")", m -> m.section(unit, 0, what), Due.ILLEGAL_ARGUMENT);
        }
        for (int what : new int[] {-1, 4, 9, BEFORE}) {
            refused("label" + of + "0, " + what + ")", m -> m.label(unit, 0, what), Due.ILLEGAL_ARGUMENT);
        }
        for (int what : new int[] {-1, 6, 9, BEFORE}) {
            refused("relocation" + of + "0, " + what + ")", m -> m.relocation(unit, 0, what), Due.ILLEGAL_ARGUMENT);
        }
        for (int what : new int[] {0, -1, 4}) {
            for (int i : new int[] {-1, sections, FAR, BEFORE}) {
                refused("section" + of + i + ", " + what + ")", m -> m.section(unit, i, what), Due.NO_ELEMENT);
                refused("byteOf" + of + i + ", " + what + ")", m -> m.byteOf(unit, i, what), Due.NO_ELEMENT);
            }
            for (int i : new int[] {-1, labels, FAR, BEFORE}) {
                refused("label" + of + i + ", " + what + ")", m -> m.label(unit, i, what), Due.NO_ELEMENT);
            }
            for (int i : new int[] {-1, relocations, FAR, BEFORE}) {
                refused("relocation" + of + i + ", " + what + ")", m -> m.relocation(unit, i, what == 4 ? 6 : what), Due.NO_ELEMENT);
            }
        }
    }

    private void notLinked() {
        refused("run(0)", m -> m.run(0), Due.ILLEGAL_STATE);
        refused("run(-1)", m -> m.run(-1), Due.ILLEGAL_STATE);
        refused("run(20001)", m -> m.run(20001), Due.ILLEGAL_STATE);
        refused("state(0)", m -> m.state(0), Due.ILLEGAL_STATE);
        refused("state(11)", m -> m.state(11), Due.ILLEGAL_STATE);
        refused("register(0)", m -> m.register(0), Due.ILLEGAL_STATE);
        refused("register(32)", m -> m.register(32), Due.ILLEGAL_STATE);
        refused("word(0)", m -> m.word(0), Due.ILLEGAL_STATE);
        refused("word(1)", m -> m.word(1), Due.ILLEGAL_STATE);
        refused("output(0)", m -> m.output(0), Due.ILLEGAL_STATE);
        refused("output(-1)", m -> m.output(-1), Due.ILLEGAL_STATE);
    }

    private void noMeaning() {
        refused("meant(0)", m -> m.meant(0), Due.ILLEGAL_STATE);
        refused("meant(6)", m -> m.meant(6), Due.ILLEGAL_STATE);
        refused("said(0)", m -> m.said(0), Due.ILLEGAL_STATE);
        refused("said(-1)", m -> m.said(-1), Due.ILLEGAL_STATE);
    }

    private void cannotMean() {
        refused("mean(0)", m -> m.mean(0), Due.ILLEGAL_STATE);
        refused("mean(-1)", m -> m.mean(-1), Due.ILLEGAL_STATE);
        refused("mean(20001)", m -> m.mean(20001), Due.ILLEGAL_STATE);
    }

    /** What link(), the machine and its outputs refuse once something is linked at 400 with 600 bytes. */
    private void ofLinked(int outputs) {
        for (int base : new int[] {-4, 1, 2, 3, 401, 199999999, 200000001, 200000004, BEFORE, FAR}) {
            refused("link(" + base + ", 512)", m -> m.link(base, 512), Due.ILLEGAL_ARGUMENT);
        }
        for (int memory : new int[] {508, 511, 513, 514, 515, 65535, 65537, 65540, 0, -512, BEFORE, FAR}) {
            refused("link(0, " + memory + ")", m -> m.link(0, memory), Due.ILLEGAL_ARGUMENT);
        }
        for (int what : new int[] {-1, 11, FAR, BEFORE}) {
            refused("state(" + what + ")", m -> m.state(what), Due.ILLEGAL_ARGUMENT);
        }
        for (int r : new int[] {-1, 32, FAR, BEFORE}) {
            refused("register(" + r + ")", m -> m.register(r), Due.ILLEGAL_ARGUMENT);
        }
        for (int address : new int[] {-4, 0, 396, 399, 401, 402, 403, 998, 1000, FAR, BEFORE}) {
            refused("word(" + address + ")", m -> m.word(address), Due.NO_INDEX);
        }
        for (int i : new int[] {-1, outputs, FAR, BEFORE}) {
            refused("output(" + i + ")", m -> m.output(i), Due.NO_INDEX);
        }
    }

    private static void ofNewObject() {
        ToolMillRefused test = new ToolMillRefused("a new object");
        test.always(0);
        test.noUnit(0);
        test.noUnit(5);
        test.refused("link(0, 512)", m -> m.link(0, 512), Due.ILLEGAL_STATE);
        test.refused("link(1, 1)", m -> m.link(1, 1), Due.ILLEGAL_STATE);
        test.notLinked();
        test.noMeaning();
        test.cannotMean();
        test.both(ToolMill::source);
    }

    private static void ofFullText() {
        ToolMillRefused test = new ToolMillRefused("a full text");
        test.text("var a;" + " ".repeat(2991) + "va");
        test.both(m -> m.put('r'));
        test.refused("put() of one sign", m -> m.put(' '), Due.UNSUPPORTED);
        test.refused("put() of a line end", m -> m.put(10 << 24), Due.UNSUPPORTED);
        test.refused("put() of four signs", m -> m.put(0x20202020), Due.UNSUPPORTED);
        test.refused("put() of four signs, one of them wrong", m -> m.put(0x1F202020), Due.ILLEGAL_ARGUMENT);
        test.always(3000);
        test.both(ToolMill::source);
        test.both(m -> m.fault(1));
        test.both(m -> end(m, 2997));
        test.refused("put() of four signs where three have room", m -> m.put(0x20202020), Due.UNSUPPORTED);
        test.both(m -> m.put(0x00202020));
        test.both(ToolMill::source);
    }

    private static void ofUnits() {
        ToolMillRefused test = new ToolMillRefused("two units");
        test.text("var a;proc main(){out(a);a=in();out(a);return a;}");
        test.both(ToolMill::source);
        test.text(".globl x\nx: jal main\n.data\n.word x");
        test.both(ToolMill::assemble);
        test.always(34);
        test.ofUnit(0, 3, 3, 9);
        test.ofUnit(1, 2, 1, 2);
        test.noUnit(2);
        test.noUnit(5);
        test.refused("typed() below 0", m -> m.typed(0, -1), Due.NO_ELEMENT);
        test.refused("typed() far below 0", m -> m.typed(0, BEFORE), Due.NO_ELEMENT);
        test.refused("typed() of one in assembly", m -> m.typed(1, 0), Due.NO_ELEMENT);
        test.refused("byteOf() behind the bytes", m -> m.byteOf(1, 0, 8), Due.NO_ELEMENT);
        test.refused("byteOf() of an empty section", m -> m.byteOf(0, 0, 0), Due.NO_ELEMENT);
        test.refused("byteOf() behind the name", m -> m.byteOf(1, 0, -5), Due.NO_ELEMENT);
        test.refused("byteOf() far behind the name", m -> m.byteOf(1, 0, BEFORE), Due.NO_ELEMENT);
        test.refused("byteOf() far behind the bytes", m -> m.byteOf(1, 0, FAR), Due.NO_ELEMENT);
        test.notLinked();
        test.noMeaning();
        test.cannotMean();
        test.refused("link(2, 0)", m -> m.link(2, 0), Due.ILLEGAL_ARGUMENT);
    }

    private static void ofLinkedOnes() {
        ToolMillRefused test = new ToolMillRefused("a linked image");
        test.text("var a;proc main(){out(a);a=in();out(a);return a;}");
        test.both(ToolMill::source);
        test.both(m -> m.input(77));
        test.both(m -> m.link(400, 600));
        test.noMeaning();
        test.ofLinked(0);
        test.refused("run(-1)", m -> m.run(-1), Due.ILLEGAL_ARGUMENT);
        test.refused("run(20001)", m -> m.run(20001), Due.ILLEGAL_ARGUMENT);
        test.refused("run() far below 0", m -> m.run(BEFORE), Due.ILLEGAL_ARGUMENT);
        test.both(m -> m.run(15));
        test.ofLinked(1);
        test.both(m -> m.run(20000));
        test.ofLinked(2);
        test.refused("run(0) of what has stopped", m -> m.run(0), Due.ILLEGAL_STATE);
        test.refused("run(20001) of what has stopped", m -> m.run(20001), Due.ILLEGAL_STATE);
        test.refused("run(-1) of what has stopped", m -> m.run(-1), Due.ILLEGAL_STATE);
        test.both(m -> m.mean(4));
        for (int steps : new int[] {-1, 20001, FAR, BEFORE}) {
            test.refused("mean(" + steps + ")", m -> m.mean(steps), Due.ILLEGAL_ARGUMENT);
        }
        for (int what : new int[] {-1, 6, FAR, BEFORE}) {
            test.refused("meant(" + what + ")", m -> m.meant(what), Due.ILLEGAL_ARGUMENT);
        }
        for (int i : new int[] {-1, 2, FAR, BEFORE}) {
            test.refused("said(" + i + ")", m -> m.said(i), Due.NO_INDEX);
        }
        test.always(49);
        test.both(m -> m.link(0, 512));
    }

    private static void ofSixUnits() {
        ToolMillRefused test = new ToolMillRefused("six units");
        for (String name : new String[] {"a", "b", "c", "d", "e"}) {
            test.text("var " + name + ";");
            test.both(ToolMill::source);
        }
        test.text("proc main(){return 9;}");
        test.both(ToolMill::source);
        test.both(m -> m.link(400, 600));
        test.both(m -> m.mean(7));
        test.refused("source()", ToolMill::source, Due.ILLEGAL_STATE);
        test.refused("assemble() of a text with a fault", ToolMill::assemble, Due.ILLEGAL_STATE);
        test.text("var ?");
        test.refused("source() of a text with a fault", ToolMill::source, Due.ILLEGAL_STATE);
        test.text("nop");
        test.refused("assemble()", ToolMill::assemble, Due.ILLEGAL_STATE);
        test.both(m -> m.run(20000));
        test.both(ToolMillRefused::forget);
        test.noUnit(0);
        test.notLinked();
        test.noMeaning();
        test.cannotMean();
        test.refused("link(0, 512)", m -> m.link(0, 512), Due.ILLEGAL_STATE);
        test.both(ToolMill::assemble);
    }

    private static void ofFaults() {
        ToolMillRefused test = new ToolMillRefused("a fault that was found");
        test.text("var a;var a;");
        test.both(ToolMill::source);
        test.both(m -> m.fault(1));
        test.refused("link() without units", m -> m.link(0, 512), Due.ILLEGAL_STATE);
        test.text("nop");
        test.both(ToolMill::assemble);
        test.both(m -> m.link(0, 512));
        test.both(m -> m.fault(0));
        test.refused("link() of a wrong base", m -> m.link(2, 512), Due.ILLEGAL_ARGUMENT);
        test.refused("mean() of a unit in assembly", m -> m.mean(0), Due.ILLEGAL_STATE);
        test.notLinked();
        for (int i = 1; i < 6; i++) {
            test.both(ToolMill::assemble);
        }
        test.both(m -> m.link(0, 512));
        test.refused("source() with six units", ToolMill::source, Due.ILLEGAL_STATE);
        test.refused("assemble() with six units", ToolMill::assemble, Due.ILLEGAL_STATE);
    }

    private static void ofFullInputs() {
        ToolMillRefused test = new ToolMillRefused("64 inputs");
        test.text("proc main(){var i;while(i<66){out(in());i=i+1;}}");
        test.both(ToolMill::source);
        for (int i = 0; i < 64; i++) {
            int v = 1000 + i;
            test.both(m -> m.input(v));
        }
        test.both(m -> m.link(400, 600));
        test.refused("input()", m -> m.input(5), Due.UNSUPPORTED);
        test.both(m -> m.run(1000));
        test.refused("input() where some are taken", m -> m.input(5), Due.UNSUPPORTED);
        test.both(m -> m.run(20000));
        test.both(m -> m.output(63));
        test.both(m -> m.output(64));
        test.both(m -> m.mean(20000));
        test.both(m -> m.said(63));
        test.both(m -> m.meant(4));
        test.refused("input() where all are taken", m -> m.input(5), Due.UNSUPPORTED);
    }

    public static void main(String[] args) {
        ofNewObject();
        ofFullText();
        ofUnits();
        ofLinkedOnes();
        ofSixUnits();
        ofFaults();
        ofFullInputs();
        Due.finish("ToolMillRefused");
    }
}
