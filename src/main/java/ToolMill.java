import java.util.Arrays;
import java.util.NoSuchElementException;

/** A toolchain for a small MIPS: a language, a macro assembler, a linker, a machine and the language's meaning. */
public final class ToolMill {
    public static final int NONE = -1;

    private static final int MOST_SIGNS = 3000;
    private static final int MOST_UNITS = 6;
    private static final int RUNTIME = 6;
    private static final int MOST_INPUTS = 64;
    private static final int MOST_KEPT = 200;
    private static final int MOST_STEPS = 20000;
    private static final int MOST_BASE = 200000000;
    private static final int LEAST_MEMORY = 512;
    private static final int MOST_MEMORY = 65536;
    private static final int MOST_TYPED = 40000;
    private static final int MOST_LINES = 4000;
    private static final int MOST_SECTIONS = 64;
    private static final int MOST_LABELS = 600;
    private static final int MOST_TOLD = 600;
    private static final int MOST_WANTS = 600;
    private static final int MOST_CONSTANTS = 200;
    private static final int MOST_USES = 3000;
    private static final int MOST_BYTES = 16384;
    private static final int MOST_NAMES = 60;
    private static final int WORD_SIGNS = 16;

    // The words of Names come in this order, so their numbers are the operations' numbers below.
    private static final String INSTRUCTION_WORDS = "sll srl sra sllv srlv srav jr jalr syscall break mfhi mthi mflo mtlo mult multu div divu addu subu and or xor nor slt sltu bltz bgez bltzal bgezal j jal beq bne blez bgtz addiu slti sltiu andi ori xori lui lb lh lw lbu lhu sb sh sw";
    private static final String OTHER_WORDS = "nop move not neg li la b beqz bnez blt bge bgt ble";
    private static final String DIRECTIVE_WORDS = ".text .data .globl .kind .want .word .half .byte .space .align .set .reorder .noreorder .if .ifsame .else .endif .macro .endm .rept .endr";
    private static final String KEYWORDS = "var proc if else while return out in";
    private static final String REGISTER_WORDS = "$zero $at $v0 $v1 $a0 $a1 $a2 $a3 $t0 $t1 $t2 $t3 $t4 $t5 $t6 $t7 $s0 $s1 $s2 $s3 $s4 $s5 $s6 $s7 $t8 $t9 $k0 $k1 $gp $sp $fp $ra";
    private static final String REGISTER_NUMBERS = "$0 $1 $2 $3 $4 $5 $6 $7 $8 $9 $10 $11 $12 $13 $14 $15 $16 $17 $18 $19 $20 $21 $22 $23 $24 $25 $26 $27 $28 $29 $30 $31";
    private static final String RUNTIME_TEXT = ".text _start\n.globl _start\n_start: jal main\nmove $a0,$v0\nli $v0,10\nsyscall\n.text _traps\n.globl _div\n.globl _index\n.globl _room\n_div: break 1\n_index: break 2\n_room: break 3\n.want main,3";

    private static final int SLL = 0;
    private static final int SRL = 1;
    private static final int SRA = 2;
    private static final int SLLV = 3;
    private static final int SRLV = 4;
    private static final int SRAV = 5;
    private static final int JR = 6;
    private static final int JALR = 7;
    private static final int SYSCALL = 8;
    private static final int BREAK = 9;
    private static final int MFHI = 10;
    private static final int MTHI = 11;
    private static final int MFLO = 12;
    private static final int MTLO = 13;
    private static final int MULT = 14;
    private static final int MULTU = 15;
    private static final int DIV = 16;
    private static final int ADDU = 18;
    private static final int SUBU = 19;
    private static final int AND = 20;
    private static final int OR = 21;
    private static final int XOR = 22;
    private static final int NOR = 23;
    private static final int SLT = 24;
    private static final int SLTU = 25;
    private static final int BLTZ = 26;
    private static final int BGEZ = 27;
    private static final int BLTZAL = 28;
    private static final int BGEZAL = 29;
    private static final int JAL = 31;
    private static final int BEQ = 32;
    private static final int BNE = 33;
    private static final int BLEZ = 34;
    private static final int BGTZ = 35;
    private static final int ADDIU = 36;
    private static final int SLTI = 37;
    private static final int SLTIU = 38;
    private static final int ANDI = 39;
    private static final int ORI = 40;
    private static final int XORI = 41;
    private static final int LUI = 42;
    private static final int LB = 43;
    private static final int LH = 44;
    private static final int LW = 45;
    private static final int LBU = 46;
    private static final int LHU = 47;
    private static final int SB = 48;
    private static final int SH = 49;
    private static final int INSTRUCTIONS = 51;
    private static final int NOP = 51;
    private static final int MOVE = 52;
    private static final int NOT = 53;
    private static final int NEG = 54;
    private static final int LI = 55;
    private static final int LA = 56;
    private static final int B = 57;
    private static final int BEQZ = 58;
    private static final int BNEZ = 59;
    private static final int BLT = 60;
    private static final int BGE = 61;
    private static final int BGT = 62;
    private static final int TEXT = 64;
    private static final int DATA = 65;
    private static final int GLOBL = 66;
    private static final int KIND = 67;
    private static final int WANT = 68;
    private static final int WORD = 69;
    private static final int HALF = 70;
    private static final int BYTE = 71;
    private static final int SPACE = 72;
    private static final int ALIGN = 73;
    private static final int SET = 74;
    private static final int REORDER = 75;
    private static final int IF = 77;
    private static final int IFSAME = 78;
    private static final int ELSE = 79;
    private static final int ENDIF = 80;
    private static final int MACRO = 81;
    private static final int ENDM = 82;
    private static final int REPT = 83;
    private static final int ENDR = 84;
    private static final int OPERATIONS = 85;
    private static final int FIRST_KEYWORD = 85;
    private static final int KEYWORD_COUNT = 8;
    private static final int FIRST_REGISTER = 93;

    // What an instruction's operands are, and which bits of its word they are.
    private static final int DST = 0;
    private static final int SHIFT = 1;
    private static final int DTS = 2;
    private static final int ST = 3;
    private static final int D = 4;
    private static final int S = 5;
    private static final int BARE = 6;
    private static final int BREAKS = 7;
    private static final int TSH = 8;
    private static final int TSN = 9;
    private static final int UPPER = 10;
    private static final int MEMORY = 11;
    private static final int BRANCH_ST = 12;
    private static final int BRANCH_S = 13;
    private static final int JUMPS = 14;
    private static final int[] FORMS = {
        SHIFT, SHIFT, SHIFT, DTS, DTS, DTS, S, S, BARE, BREAKS, D, S, D, S, ST, ST, ST, ST,
        DST, DST, DST, DST, DST, DST, DST, DST,
        BRANCH_S, BRANCH_S, BRANCH_S, BRANCH_S, JUMPS, JUMPS, BRANCH_ST, BRANCH_ST, BRANCH_S, BRANCH_S,
        TSH, TSH, TSH, TSN, TSN, TSN, UPPER,
        MEMORY, MEMORY, MEMORY, MEMORY, MEMORY, MEMORY, MEMORY, MEMORY,
    };
    private static final int[] BASES = {
        0x00, 0x02, 0x03, 0x04, 0x06, 0x07, 0x08, 0xF809, 0x0C, 0x0D, 0x10, 0x11, 0x12, 0x13, 0x18, 0x19, 0x1A, 0x1B,
        0x21, 0x23, 0x24, 0x25, 0x26, 0x27, 0x2A, 0x2B,
        0x04000000, 0x04010000, 0x04100000, 0x04110000, 0x08000000, 0x0C000000, 0x10000000, 0x14000000, 0x18000000, 0x1C000000,
        0x24000000, 0x28000000, 0x2C000000, 0x30000000, 0x34000000, 0x38000000, 0x3C000000,
        0x80000000, 0x84000000, 0x8C000000, 0x90000000, 0x94000000, 0xA0000000, 0xA4000000, 0xAC000000,
    };
    /** By form: the bits that must be as in the base. */
    private static final int[] FIXED = {
        0xFC0007FF, 0xFFE0003F, 0xFC0007FF, 0xFC00FFFF, 0xFFFF07FF, 0xFC1FFFFF, 0xFFFFFFFF, 0xFC00003F,
        0xFC000000, 0xFC000000, 0xFFE00000, 0xFC000000, 0xFC000000, 0xFC1F0000, 0xFC000000,
    };

    private static final int S_SHIFT = 21;
    private static final int T_SHIFT = 16;
    private static final int D_SHIFT = 11;
    private static final int N_SHIFT = 6;
    private static final int AT_AS_S = 1 << S_SHIFT;
    private static final int AT_AS_T = 1 << T_SHIFT;
    private static final int AT_AS_D = 1 << D_SHIFT;
    private static final int V0 = 2;
    private static final int A0 = 4;
    private static final int GP = 28;
    private static final int SP = 29;
    private static final int RA = 31;

    private static final int SORT_WORD = 0;
    private static final int SORT_HI = 1;
    private static final int SORT_LO = 2;
    private static final int SORT_JUMP = 3;
    private static final int SORT_BRANCH = 4;

    // Fault kinds of an assembly's text.
    private static final int MALFORMED = 1;
    private static final int TAKEN = 2;
    private static final int OUTSIDE = 3;
    private static final int LOST = 4;
    private static final int MISPLACED = 5;
    private static final int TOO_MUCH = 6;

    // What a unit in the language does, item by item; the text and the meaning are both made of these.
    private static final int ITEM_VARIABLE = 0;
    private static final int ITEM_ARRAY = 1;
    private static final int ITEM_PROCEDURE = 2;
    private static final int ITEM_CLOSE = 3;
    private static final int ITEM_STEP = 4;
    private static final int ITEM_NUMBER = 5;
    private static final int ITEM_IN = 6;
    private static final int ITEM_GET = 7;
    private static final int ITEM_CHECK = 8;
    private static final int ITEM_FETCH = 9;
    private static final int ITEM_CALL = 10;
    private static final int ITEM_SEND = 11;
    private static final int ITEM_MINUS = 12;
    private static final int ITEM_NOT = 13;
    private static final int ITEM_TURN = 14;
    private static final int ITEM_ADD = 15;
    private static final int ITEM_SUB = 16;
    private static final int ITEM_OR = 17;
    private static final int ITEM_XOR = 18;
    private static final int ITEM_MUL = 19;
    private static final int ITEM_DIV = 20;
    private static final int ITEM_REM = 21;
    private static final int ITEM_AND = 22;
    private static final int ITEM_LEFT = 23;
    private static final int ITEM_RIGHT = 24;
    private static final int ITEM_SAME = 25;
    private static final int ITEM_UNLIKE = 26;
    private static final int ITEM_LESS = 27;
    private static final int ITEM_MOST = 28;
    private static final int ITEM_SET = 29;
    private static final int ITEM_STORE = 30;
    private static final int ITEM_UNLESS = 31;
    private static final int ITEM_JUMP = 32;
    private static final int ITEM_LABEL = 33;
    private static final int ITEM_RETURN = 34;
    private static final int ITEM_OUT = 35;
    private static final int ITEM_BITS = 6;

    private final byte[] text = new byte[MOST_SIGNS];
    private int signs;
    private final Unit[] units = new Unit[MOST_UNITS + 1];
    private int unitCount;
    private final int[] inputs = new int[MOST_INPUTS];
    private int inputCount;
    private int faultKind;
    private int faultPlace = NONE;
    private int faultUnit = NONE;
    private boolean linked;
    private boolean hasMeaning;
    private final Codes codes;
    private final Reader reader;
    private final Assembler assembler;
    private final Linker linker;
    private final Machine machine;
    private final Meaning meaning;

    public ToolMill() {
        Names names = new Names();
        codes = new Codes(names);
        reader = new Reader(names);
        assembler = new Assembler(names);
        machine = new Machine(codes);
        linker = new Linker(names, machine);
        meaning = new Meaning(names);
        for (int i = 0; i < MOST_UNITS; i++) {
            units[i] = new Unit(new Draft(), MOST_SECTIONS, MOST_LABELS, MOST_WANTS, MOST_USES, MOST_BYTES);
        }
        byte[] runtimeText = new byte[RUNTIME_TEXT.length()];
        for (int i = 0; i < runtimeText.length; i++) {
            runtimeText[i] = (byte) RUNTIME_TEXT.charAt(i);
        }
        Unit runtime = new Unit(null, 4, 8, 4, 16, 64);
        assembler.make(runtime, runtimeText, runtimeText.length);
        units[RUNTIME] = runtime;
    }

    // ---- texts and units

    public int put(int signs) throws IllegalArgumentException, UnsupportedOperationException {
        int more = 0;
        for (int i = 0; i < 4; i++) {
            int sign = signs >>> 8 * i & 255;
            if (sign != 0 && sign != '\n' && (sign < 32 || sign > 126)) {
                throw new IllegalArgumentException("no sign of a text");
            }
            more += sign == 0 ? 0 : 1;
        }
        if (this.signs + more > MOST_SIGNS) {
            throw new UnsupportedOperationException("the text is full");
        }
        for (int i = 0; i < 4; i++) {
            int sign = signs >>> 8 * i & 255;
            if (sign != 0) {
                text[this.signs] = (byte) sign;
                this.signs++;
            }
        }
        return this.signs;
    }

    public void end(int n) throws IllegalArgumentException {
        if (n < 0 || n > signs) {
            throw new IllegalArgumentException("the text has not so many signs");
        }
        signs = n;
    }

    public int source() throws IllegalStateException {
        Unit unit = nextUnit();
        Draft draft = unit.draft;
        reader.read(text, signs, draft);
        int kind = reader.faultKind;
        int place = reader.faultPlace;
        if (kind == 0) {
            draft.type(reader);
            if (draft.typedSize > MOST_TYPED || !assembler.make(unit, draft.typed, draft.typedSize)) {
                kind = 4;
                place = signs;
            }
        }
        unit.inLanguage = true;
        return settled(kind, place);
    }

    public int assemble() throws IllegalStateException {
        Unit unit = nextUnit();
        assembler.make(unit, text, signs);
        unit.inLanguage = false;
        return settled(assembler.faultKind, assembler.faultLine);
    }

    public void forget() {
        unitCount = 0;
        linked = false;
        hasMeaning = false;
    }

    public int fault(int what) throws IllegalArgumentException {
        switch (what) {
            case 0:
                return faultKind;
            case 1:
                return faultPlace;
            case 2:
                return faultUnit;
            default:
                throw new IllegalArgumentException("a fault has no such part");
        }
    }

    public int typed(int unit, int k) throws NoSuchElementException {
        Unit of = unitOf(unit);
        if (!of.inLanguage || of.draft == null || k < 0) {
            throw new NoSuchElementException("no such typed sign");
        }
        return k < of.draft.typedSize && k < of.draft.typed.length ? of.draft.typed[k] : NONE;
    }

    // ---- objects (unit 6 is the runtime, also if there are no others)

    public int unit(int unit, int what) throws NoSuchElementException, IllegalArgumentException {
        Unit of = unitOf(unit);
        switch (what) {
            case 0:
                return of.inLanguage ? 1 : 0;
            case 1:
                return of.sectionCount;
            case 2:
                return of.labelCount;
            case 3:
                return of.useCount;
            case 4:
                return of.byteCount;
            default:
                throw new IllegalArgumentException("a unit has no such part");
        }
    }

    public int section(int unit, int i, int what) throws NoSuchElementException, IllegalArgumentException {
        Unit of = unitOf(unit);
        if (i < 0 || i >= of.sectionCount) {
            throw new NoSuchElementException("no such section");
        }
        int row = i * Unit.SECTION_ROW;
        switch (what) {
            case 0:
                return of.sections[row + Unit.IS_DATA];
            case 1:
                return of.sections[row + Unit.SIZE];
            case 2:
                return of.sections[row + Unit.ALIGNMENT];
            case 3:
                return linked ? of.sections[row + Unit.ADDRESS] : NONE;
            default:
                throw new IllegalArgumentException("a section has no such part");
        }
    }

    public int byteOf(int unit, int i, int k) throws NoSuchElementException {
        Unit of = unitOf(unit);
        if (i < 0 || i >= of.sectionCount) {
            throw new NoSuchElementException("no such section");
        }
        int row = i * Unit.SECTION_ROW;
        if (k >= of.sections[row + Unit.SIZE]) {
            throw new NoSuchElementException("no such byte");
        }
        if (k >= 0) {
            return of.bytes[of.sections[row + Unit.START] + k] & 255;
        }
        int sign = Names.signOf(of.sectionNames, i, -1 - k);
        if (sign == NONE) {
            throw new NoSuchElementException("no such sign");
        }
        return sign;
    }

    public int label(int unit, int i, int what) throws NoSuchElementException, IllegalArgumentException {
        Unit of = unitOf(unit);
        if (i < 0 || i >= of.labelCount) {
            throw new NoSuchElementException("no such label");
        }
        int row = i * Unit.LABEL_ROW;
        switch (what) {
            case 0:
                return of.labels[row + Unit.LABEL_SECTION];
            case 1:
                return of.labels[row + Unit.LABEL_PLACE];
            case 2:
                return of.labels[row + Unit.IS_GLOBAL];
            case 3:
                return of.labels[row + Unit.LABEL_KIND];
            default:
                break;
        }
        if (what < 10) {
            throw new IllegalArgumentException("a label has no such part");
        }
        return Names.signOf(of.labelNames, i, what - 10);
    }

    public int relocation(int unit, int i, int what) throws NoSuchElementException, IllegalArgumentException {
        Unit of = unitOf(unit);
        if (i < 0 || i >= of.useCount) {
            throw new NoSuchElementException("no such relocation");
        }
        int row = i * Unit.USE_ROW;
        switch (what) {
            case 0:
                return of.uses[row + Unit.USE_SECTION];
            case 1:
                return of.uses[row + Unit.USE_PLACE];
            case 2:
                return of.uses[row + Unit.SORT];
            case 3:
                return of.uses[row + Unit.TARGET];
            case 4:
                return of.uses[row + Unit.NUMBER];
            case 5:
                return of.uses[row + Unit.USE_LINE];
            default:
                break;
        }
        if (what < 10) {
            throw new IllegalArgumentException("a relocation has no such part");
        }
        return Names.signOf(of.useNames, i, what - 10);
    }

    // ---- the image and the machine

    public int input(int v) throws UnsupportedOperationException {
        if (inputCount >= MOST_INPUTS) {
            throw new UnsupportedOperationException("the inputs are full");
        }
        inputs[inputCount] = v;
        inputCount++;
        return inputCount;
    }

    public int link(int base, int memory) throws IllegalStateException, IllegalArgumentException {
        if (unitCount == 0) {
            throw new IllegalStateException("there are no units");
        }
        if ((base & 3) != 0 || base < 0 || base > MOST_BASE) {
            throw new IllegalArgumentException("no such base");
        }
        if ((memory & 3) != 0 || memory < LEAST_MEMORY || memory > MOST_MEMORY) {
            throw new IllegalArgumentException("no such memory");
        }
        linked = linker.join(units, unitCount, base, memory);
        faultKind = linker.faultKind;
        faultPlace = linker.faultLine;
        faultUnit = linker.faultUnit;
        return linked ? linker.imageEnd - base : NONE;
    }

    public int run(int n) throws IllegalStateException, IllegalArgumentException {
        if (!linked || machine.outcome != 0) {
            throw new IllegalStateException("nothing runs");
        }
        if (n < 0 || n > MOST_STEPS) {
            throw new IllegalArgumentException("no such number of steps");
        }
        return machine.go(n, inputs, inputCount);
    }

    public int state(int what) throws IllegalStateException, IllegalArgumentException {
        needLinked();
        switch (what) {
            case 0:
                return machine.outcome;
            case 1:
                return machine.number;
            case 2:
                return machine.pc;
            case 3:
                return machine.next;
            case 4:
                return machine.hi;
            case 5:
                return machine.lo;
            case 6:
                return machine.steps;
            case 7:
                return machine.outputCount;
            case 8:
                return inputCount - machine.taken;
            case 9:
                return machine.imageEnd;
            case 10:
                return machine.textEnd;
            default:
                throw new IllegalArgumentException("the machine has no such part");
        }
    }

    public int register(int r) throws IllegalStateException, IllegalArgumentException {
        needLinked();
        if (r < 0 || r > 31) {
            throw new IllegalArgumentException("no such register");
        }
        return machine.registers[r];
    }

    public int word(int address) throws IllegalStateException, IndexOutOfBoundsException {
        needLinked();
        if ((address & 3) != 0 || !machine.holds(address)) {
            throw new IndexOutOfBoundsException("no such word");
        }
        return machine.wordAt(address);
    }

    public int output(int i) throws IllegalStateException, IndexOutOfBoundsException {
        needLinked();
        if (i < 0 || i >= machine.outputCount || i >= MOST_KEPT) {
            throw new IndexOutOfBoundsException("no such output");
        }
        return machine.outputs[i];
    }

    public int listing(int word, int k) throws IndexOutOfBoundsException {
        if (k < 0) {
            throw new IndexOutOfBoundsException("no such sign");
        }
        return codes.signOfWord(word, k);
    }

    // ---- the meaning

    public int mean(int steps) throws IllegalStateException, IllegalArgumentException {
        if (unitCount == 0 || !meaning.resolve(units, unitCount)) {
            throw new IllegalStateException("the units have no meaning");
        }
        if (steps < 0 || steps > MOST_STEPS) {
            throw new IllegalArgumentException("no such number of steps");
        }
        meaning.work(steps, inputs, inputCount);
        hasMeaning = true;
        return meaning.answer;
    }

    public int meant(int what) throws IllegalStateException, IllegalArgumentException {
        needMeaning();
        switch (what) {
            case 0:
                return meaning.answer;
            case 1:
                return meaning.result;
            case 2:
                return meaning.steps;
            case 3:
                return meaning.saidCount;
            case 4:
                return meaning.taken;
            case 5:
                return meaning.deepest;
            default:
                throw new IllegalArgumentException("a meaning has no such part");
        }
    }

    public int said(int i) throws IllegalStateException, IndexOutOfBoundsException {
        needMeaning();
        if (i < 0 || i >= meaning.saidCount || i >= MOST_KEPT) {
            throw new IndexOutOfBoundsException("nothing said there");
        }
        return meaning.saidValues[i];
    }

    /** The room of the next unit; forget() or a fault leaves it to be used again. */
    private Unit nextUnit() {
        if (unitCount >= MOST_UNITS) {
            throw new IllegalStateException("there are six units");
        }
        return units[unitCount];
    }

    private int settled(int kind, int place) {
        faultKind = kind;
        faultPlace = kind == 0 ? NONE : place;
        faultUnit = NONE;
        if (kind != 0) {
            return NONE;
        }
        linked = false;
        hasMeaning = false;
        unitCount++;
        return unitCount - 1;
    }

    private Unit unitOf(int unit) {
        if (unit != RUNTIME && (unit < 0 || unit >= unitCount)) {
            throw new NoSuchElementException("no such unit");
        }
        return units[unit];
    }

    private void needLinked() {
        if (!linked) {
            throw new IllegalStateException("nothing is linked");
        }
    }

    private void needMeaning() {
        if (!hasMeaning) {
            throw new IllegalStateException("there is no meaning");
        }
    }

    private static boolean isSmallLetter(int sign) {
        return sign >= 'a' && sign <= 'z';
    }

    private static boolean isDigit(int sign) {
        return sign >= '0' && sign <= '9';
    }

    /** Whether a sign may stand inside a word of assembly. */
    private static boolean isWordSign(int sign) {
        return sign >= 'a' && sign <= 'z' || sign >= '0' && sign <= '9' || sign == '_' || sign == '.';
    }

    /** Words by number, each with what the one at work knows of it; the toolchain's own words stay for good. */
    static final class Names {
        private static final int MOST = 4000;
        private static final int SLOTS = 8192;
        private static final long SPREAD = 0x9E3779B97F4A7C15L;
        private static final long SPREAD_MORE = 0xC2B2AE3D27D4EB4FL;
        final long[] first = new long[MOST];
        final long[] second = new long[MOST];
        /** The label or declaration of that name, or NONE. */
        final int[] owner = new int[MOST];
        final int[] mark = new int[MOST];
        final int[] value = new int[MOST];
        private final int[] slots = new int[SLOTS];
        private final int[] slotOf = new int[MOST];
        private int count;
        private final int kept;

        Names() {
            load(INSTRUCTION_WORDS);
            load(OTHER_WORDS);
            load(DIRECTIVE_WORDS);
            load(KEYWORDS);
            load(REGISTER_WORDS);
            load(REGISTER_NUMBERS);
            kept = count;
        }

        private void load(String words) {
            long a = 0;
            long b = 0;
            int k = 0;
            for (int i = 0; i <= words.length(); i++) {
                if (i == words.length() || words.charAt(i) == ' ') {
                    numberOf(a, b);
                    a = 0;
                    b = 0;
                    k = 0;
                } else if (k < 8) {
                    a |= (long) words.charAt(i) << 8 * k;
                    k++;
                } else {
                    b |= (long) words.charAt(i) << 8 * (k - 8);
                    k++;
                }
            }
        }

        /** Forgets all words but the toolchain's own. */
        void clear() {
            for (int id = kept; id < count; id++) {
                slots[slotOf[id]] = 0;
            }
            count = kept;
            for (int id = 0; id < kept; id++) {
                owner[id] = NONE;
                mark[id] = 0;
                value[id] = 0;
            }
        }

        /** A word's number, or NONE. */
        int find(long a, long b) {
            int slot = (int) (a * SPREAD + b * SPREAD_MORE >>> 40) & SLOTS - 1;
            for (int i = 0; i < SLOTS && slots[slot] != 0; i++) {
                int id = slots[slot] - 1;
                if (first[id] == a && second[id] == b) {
                    return id;
                }
                slot = slot + 1 & SLOTS - 1;
            }
            return NONE;
        }

        /** A word's number, a new one if it has none; NONE only without room, which the limits of texts leave. */
        int numberOf(long a, long b) {
            int found = find(a, b);
            if (found != NONE || count >= MOST) {
                return found;
            }
            int slot = (int) (a * SPREAD + b * SPREAD_MORE >>> 40) & SLOTS - 1;
            for (int i = 0; i < SLOTS && slots[slot] != 0; i++) {
                slot = slot + 1 & SLOTS - 1;
            }
            first[count] = a;
            second[count] = b;
            owner[count] = NONE;
            mark[count] = 0;
            value[count] = 0;
            slots[slot] = count + 1;
            slotOf[count] = slot;
            count++;
            return count - 1;
        }

        /** Up to eight signs of a text as one number, the first one lowest. */
        static long pack(byte[] text, int from, int to) {
            long packed = 0;
            for (int i = 0; i < 8 && from + i < to && from + i < text.length; i++) {
                packed |= (long) text[from + i] << 8 * i;
            }
            return packed;
        }

        /** Sign k of the i-th name of a row of pairs, NONE behind it. */
        static int signOf(long[] names, int i, int k) {
            if (k < 0 || k >= WORD_SIGNS || i < 0 || 2 * i + 1 >= names.length) {
                return NONE;
            }
            int sign = (int) (names[2 * i + k / 8] >>> 8 * (k % 8)) & 255;
            return sign == 0 ? NONE : sign;
        }
    }

    /** An object: sections, labels, wants, and the uses of labels that become relocations. */
    static final class Unit {
        static final int SECTION_ROW = 6;
        static final int IS_DATA = 0;
        static final int SIZE = 1;
        static final int ALIGNMENT = 2;
        static final int START = 3;
        static final int REACHED = 4;
        static final int ADDRESS = 5;
        static final int LABEL_ROW = 5;
        static final int LABEL_SECTION = 0;
        static final int LABEL_PLACE = 1;
        static final int LABEL_LINE = 2;
        static final int IS_GLOBAL = 3;
        static final int LABEL_KIND = 4;
        static final int WANT_ROW = 2;
        static final int WANT_KIND = 0;
        static final int WANT_LINE = 1;
        static final int USE_ROW = 6;
        static final int USE_SECTION = 0;
        static final int USE_PLACE = 1;
        static final int SORT = 2;
        static final int TARGET = 3;
        static final int NUMBER = 4;
        static final int USE_LINE = 5;

        boolean inLanguage;
        /** What the unit says if it is in the language; null of the runtime, which never is. */
        final Draft draft;
        /** All sections' bytes, section behind section. */
        final byte[] bytes;
        int byteCount;
        final long[] sectionNames;
        final int[] sections;
        int sectionCount;
        final long[] labelNames;
        final int[] labels;
        int labelCount;
        final long[] wantNames;
        final int[] wants;
        int wantCount;
        final long[] useNames;
        final int[] uses;
        int useCount;

        Unit(Draft draft, int mostSections, int mostLabels, int mostWants, int mostUses, int mostBytes) {
            this.draft = draft;
            sectionNames = new long[2 * mostSections];
            sections = new int[SECTION_ROW * mostSections];
            labelNames = new long[2 * mostLabels];
            labels = new int[LABEL_ROW * mostLabels];
            wantNames = new long[2 * mostWants];
            wants = new int[WANT_ROW * mostWants];
            useNames = new long[2 * mostUses];
            uses = new int[USE_ROW * mostUses];
            bytes = new byte[mostBytes];
        }

        void clear() {
            byteCount = 0;
            sectionCount = 0;
            labelCount = 0;
            wantCount = 0;
            useCount = 0;
        }

        int findSection(long a, long b) {
            for (int i = 0; i < sectionCount; i++) {
                if (sectionNames[2 * i] == a && sectionNames[2 * i + 1] == b) {
                    return i;
                }
            }
            return NONE;
        }

        boolean addSection(long a, long b, boolean data) {
            int row = sectionCount * SECTION_ROW;
            if (row + SECTION_ROW > sections.length) {
                return false;
            }
            sectionNames[2 * sectionCount] = a;
            sectionNames[2 * sectionCount + 1] = b;
            sections[row + IS_DATA] = data ? 1 : 0;
            sections[row + SIZE] = 0;
            sections[row + ALIGNMENT] = 4;
            sections[row + START] = byteCount;
            sections[row + REACHED] = 0;
            sections[row + ADDRESS] = NONE;
            sectionCount++;
            return true;
        }

        boolean addLabel(long a, long b, int section, int line) {
            int row = labelCount * LABEL_ROW;
            if (row + LABEL_ROW > labels.length) {
                return false;
            }
            labelNames[2 * labelCount] = a;
            labelNames[2 * labelCount + 1] = b;
            labels[row + LABEL_SECTION] = section;
            labels[row + LABEL_PLACE] = sizeOf(section);
            labels[row + LABEL_LINE] = line;
            labels[row + IS_GLOBAL] = 0;
            labels[row + LABEL_KIND] = 0;
            labelCount++;
            return true;
        }

        boolean addWant(long a, long b, int kind, int line) {
            int row = wantCount * WANT_ROW;
            if (row + WANT_ROW > wants.length) {
                return false;
            }
            wantNames[2 * wantCount] = a;
            wantNames[2 * wantCount + 1] = b;
            wants[row + WANT_KIND] = kind;
            wants[row + WANT_LINE] = line;
            wantCount++;
            return true;
        }

        /** A new use of a label that is not known yet; its number, or NONE if there is no room. */
        int addUse(int section, int place, int sort, int number, int line) {
            int row = useCount * USE_ROW;
            if (row + USE_ROW > uses.length) {
                return NONE;
            }
            useNames[2 * useCount] = 0;
            useNames[2 * useCount + 1] = 0;
            uses[row + USE_SECTION] = section;
            uses[row + USE_PLACE] = place;
            uses[row + SORT] = sort;
            uses[row + TARGET] = NONE;
            uses[row + NUMBER] = number;
            uses[row + USE_LINE] = line;
            useCount++;
            return useCount - 1;
        }

        int sizeOf(int section) {
            return sections[section * SECTION_ROW + SIZE];
        }

        /** So many bytes 0 more at a section's end; false if there is no room. */
        boolean grow(int section, int more) {
            if (more < 0 || byteCount + more > bytes.length) {
                return false;
            }
            int row = section * SECTION_ROW;
            int end = sections[row + START] + sections[row + SIZE];
            for (int k = byteCount - 1; k >= end; k--) {
                bytes[k + more] = bytes[k];
            }
            Arrays.fill(bytes, end, end + more, (byte) 0);
            for (int i = section + 1; i < sectionCount; i++) {
                sections[i * SECTION_ROW + START] += more;
            }
            sections[row + SIZE] += more;
            byteCount += more;
            return true;
        }

        /** Writes the lowest bytes of a value, the lowest first. */
        void write(int section, int place, int value, int width) {
            int at = sections[section * SECTION_ROW + START] + place;
            for (int i = 0; i < width && at >= 0 && at + i < byteCount; i++) {
                bytes[at + i] = (byte) (value >>> 8 * i);
            }
        }

        int wordAt(int section, int place) {
            int at = sections[section * SECTION_ROW + START] + place;
            int word = 0;
            for (int i = 0; i < 4 && at >= 0 && at + i < byteCount; i++) {
                word |= (bytes[at + i] & 255) << 8 * i;
            }
            return word;
        }
    }

    /** What a unit in the language says: its names and its items in order; it types itself out as assembly. */
    static final class Draft {
        static final int MOST_DECLARED = 512;
        static final int MOST_ITEMS = 3200;
        static final int ROW = 6;
        static final int KIND_TOLD = 0;
        static final int WORDS = 1;
        static final int LOCALS = 2;
        static final int SAVED = 3;
        static final int LABELS = 4;
        static final int ENTRY = 5;

        final byte[] typed = new byte[MOST_TYPED];
        int typedSize;
        /** Two numbers each: the item with its depth, and its operand. */
        final int[] items = new int[2 * MOST_ITEMS];
        int itemCount;
        final int[] declared = new int[MOST_DECLARED * ROW];
        final long[] declaredNames = new long[MOST_DECLARED];
        int declaredCount;
        final int[] outerKinds = new int[MOST_NAMES];
        final long[] outerNames = new long[MOST_NAMES];
        int outerCount;
        private Reader reader;
        private int depth;
        private long name;
        /** Labels that are no statement's, so far: a statement's label has these ahead of it. */
        private int extra;
        private int endLabel;
        /** Where the saved words of the procedure at hand begin in its frame. */
        private int saved;

        void clear() {
            typedSize = 0;
            itemCount = 0;
            declaredCount = 0;
            outerCount = 0;
        }

        void add(int item, int depth, int operand) {
            if (itemCount < MOST_ITEMS) {
                items[2 * itemCount] = item | depth << ITEM_BITS;
                items[2 * itemCount + 1] = operand;
                itemCount++;
            }
        }

        // The assembly

        /** Types the items out as assembly, and settles what they point to. */
        void type(Reader from) {
            reader = from;
            typedSize = 0;
            extra = 0;
            for (int i = 0; i < itemCount; i++) {
                int item = items[2 * i] & (1 << ITEM_BITS) - 1;
                depth = items[2 * i] >> ITEM_BITS;
                int operand = items[2 * i + 1];
                if (item <= ITEM_CLOSE) {
                    declaration(item, operand);
                } else if (item >= ITEM_GET && item <= ITEM_SEND || item == ITEM_SET || item == ITEM_STORE) {
                    items[2 * i + 1] = use(item, operand);
                } else if (item >= ITEM_UNLESS && item <= ITEM_LABEL) {
                    turn(item, operand);
                    items[2 * i + 1] = reader.labels[operand];
                } else if (item >= ITEM_ADD && item <= ITEM_MOST) {
                    two(item);
                } else {
                    single(item, operand);
                }
            }
            for (int i = 0; i < outerCount; i++) {
                name = outerNames[i];
                say(".want ?,#\n", outerKinds[i]);
            }
        }

        /** @ is the register of the depth, ~ the next one, ? the name, # the number. */
        private void say(String pattern, int number) {
            for (int i = 0; i < pattern.length(); i++) {
                char sign = pattern.charAt(i);
                if (sign == '@' || sign == '~') {
                    sign('$');
                    sign('t');
                    digits(sign == '@' ? depth : depth + 1);
                } else if (sign == '?') {
                    for (int k = 0; k < 8 && (name >>> 8 * k & 255) != 0; k++) {
                        sign((int) (name >>> 8 * k) & 255);
                    }
                } else if (sign == '#') {
                    digits(number);
                } else {
                    sign(sign);
                }
            }
        }

        private void digits(int number) {
            int unit = 1;
            while (unit <= 100000000 && number / unit >= 10) {
                unit *= 10;
            }
            for (; unit > 0; unit /= 10) {
                sign('0' + number / unit % 10);
            }
        }

        private void sign(int sign) {
            if (typedSize < typed.length) {
                typed[typedSize] = (byte) sign;
            }
            typedSize++;
        }

        private void declaration(int item, int number) {
            int row = number * Draft.ROW;
            int words = declared[row + Draft.WORDS];
            name = declaredNames[number];
            if (item == ITEM_VARIABLE) {
                say(".data ?\n.globl ?\n.kind ?,1\n?: .word 0\n", 0);
            } else if (item == ITEM_ARRAY) {
                say(".data ?\n.word #\n.globl ?\n.kind ?,2\n?: .space ", words);
                say("#\n", 4 * words);
            } else if (item == ITEM_PROCEDURE) {
                opening(row);
            } else {
                int frame = frameOf(row);
                say("move $v0,$zero\n_#:\n", endLabel);
                say("lw $ra,#($sp)\n", frame - 4);
                say("addiu $sp,$sp,#\njr $ra\n", frame);
            }
        }

        private int frameOf(int row) {
            int parameters = declared[row + Draft.KIND_TOLD] - 3;
            return 4 * (parameters + declared[row + Draft.LOCALS] + declared[row + Draft.SAVED] + 1);
        }

        private void opening(int row) {
            int parameters = declared[row + Draft.KIND_TOLD] - 3;
            int locals = declared[row + Draft.LOCALS];
            int frame = frameOf(row);
            saved = 4 * (parameters + locals);
            say(".text ?\n.globl ?\n.kind ?,#\n?:\n", 3 + parameters);
            endLabel = declared[row + Draft.LABELS] + extra;
            extra++;
            say("addiu $sp,$sp,-#\nslt $at,$sp,$gp\nbnez $at,_room\n", frame);
            say("sw $ra,#($sp)\n", frame - 4);
            for (int j = 0; j < parameters; j++) {
                say("sw $a#,", j);
                say("#($sp)\n", 4 * j);
            }
            if (locals > 0) {
                say("addiu $v1,$sp,#\n", 4 * parameters);
                say("addiu $at,$sp,#\n", saved);
                say("_#:\nsw $zero,0($v1)\naddiu $v1,$v1,4\nbne $v1,$at,_#\n", declared[row + Draft.LABELS] + extra);
                extra++;
            }
        }

        /** An item that names something: its text, and what the meaning has for its operand. */
        private int use(int item, int use) {
            int row = use * Reader.USE_ROW;
            int offset = reader.uses[row + Reader.USE_OFFSET];
            if (offset >= 0) {
                int words = reader.uses[row + Reader.USE_WORDS];
                local(item, 4 * offset, words);
                return item == ITEM_CHECK ? words : offset;
            }
            int target = reader.uses[row + Reader.USE_TARGET];
            name = target < MOST_NAMES ? declaredNames[target] : outerNames[target - MOST_NAMES];
            if (item == ITEM_CALL || item == ITEM_SEND) {
                call(item, reader.uses[row + Reader.USE_KIND] - 3);
            } else {
                global(item);
            }
            return -1 - target;
        }

        private void local(int item, int offset, int words) {
            if (item == ITEM_GET) {
                say("lw @,#($sp)\n", offset);
            } else if (item == ITEM_SET) {
                say("sw $t0,#($sp)\n", offset);
            } else if (item == ITEM_CHECK) {
                say("sltiu $at,@,#\nbeqz $at,_index\nsll @,@,2\naddu @,@,$sp\n", words);
            } else if (item == ITEM_FETCH) {
                say("lw @,#(@)\n", offset);
            } else {
                say("sw $t1,#($t0)\n", offset);
            }
        }

        private void global(int item) {
            if (item == ITEM_GET) {
                say("lw @,?\n", 0);
            } else if (item == ITEM_SET) {
                say("sw $t0,?\n", 0);
            } else if (item == ITEM_CHECK) {
                say("lw $at,?-4\nsltu $at,@,$at\nbeqz $at,_index\nsll @,@,2\n", 0);
            } else if (item == ITEM_FETCH) {
                say("lui $at,%hi(?)\naddu $at,$at,@\nlw @,%lo(?)($at)\n", 0);
            } else {
                say("lui $at,%hi(?)\naddu $at,$at,$t0\nsw $t1,%lo(?)($at)\n", 0);
            }
        }

        private void call(int item, int count) {
            for (int i = 0; i < depth; i++) {
                say("sw $t#,", i);
                say("#($sp)\n", saved + 4 * i);
            }
            for (int j = 0; j < count; j++) {
                say("move $a#,", j);
                say("$t#\n", depth + j);
            }
            say("jal ?\n", 0);
            for (int i = 0; i < depth; i++) {
                say("lw $t#,", i);
                say("#($sp)\n", saved + 4 * i);
            }
            if (item == ITEM_CALL) {
                say("move @,$v0\n", 0);
            }
        }

        private void turn(int item, int label) {
            if (item == ITEM_UNLESS) {
                say("beqz $t0,_#\n", label + extra);
            } else if (item == ITEM_JUMP) {
                say("b _#\n", label + extra);
            } else {
                say("_#:\n", label + extra);
            }
        }

        private void single(int item, int operand) {
            switch (item) {
                case ITEM_NUMBER:
                    say("li @,#\n", operand);
                    break;
                case ITEM_IN:
                    say("li $v0,5\nsyscall\nmove @,$v0\n", 0);
                    break;
                case ITEM_MINUS:
                    say("subu @,$zero,@\n", 0);
                    break;
                case ITEM_NOT:
                    say("sltiu @,@,1\n", 0);
                    break;
                case ITEM_TURN:
                    say("nor @,@,$zero\n", 0);
                    break;
                case ITEM_RETURN:
                    say("move $v0,$t0\nb _#\n", endLabel);
                    break;
                case ITEM_OUT:
                    say("move $a0,$t0\nli $v0,1\nsyscall\n", 0);
                    break;
                default:
                    break;
            }
        }

        private void two(int item) {
            switch (item) {
                case ITEM_ADD:
                    say("addu @,@,~\n", 0);
                    break;
                case ITEM_SUB:
                    say("subu @,@,~\n", 0);
                    break;
                case ITEM_OR:
                    say("or @,@,~\n", 0);
                    break;
                case ITEM_XOR:
                    say("xor @,@,~\n", 0);
                    break;
                case ITEM_MUL:
                    say("mult @,~\nmflo @\n", 0);
                    break;
                case ITEM_DIV:
                    say("beqz ~,_div\ndiv @,~\nmflo @\n", 0);
                    break;
                case ITEM_REM:
                    say("beqz ~,_div\ndiv @,~\nmfhi @\n", 0);
                    break;
                case ITEM_AND:
                    say("and @,@,~\n", 0);
                    break;
                case ITEM_LEFT:
                    say("sllv @,@,~\n", 0);
                    break;
                case ITEM_RIGHT:
                    say("srav @,@,~\n", 0);
                    break;
                case ITEM_SAME:
                    say("xor @,@,~\nsltiu @,@,1\n", 0);
                    break;
                case ITEM_UNLIKE:
                    say("xor @,@,~\nsltu @,$zero,@\n", 0);
                    break;
                case ITEM_LESS:
                    say("slt @,@,~\n", 0);
                    break;
                default:
                    say("slt @,~,@\nxori @,@,1\n", 0);
                    break;
            }
        }
    }

    /** Reads a text in the language into a draft, or finds its fault. */
    static final class Reader {
        private static final int END = 0;
        private static final int BAD = 1;
        private static final int NAME = 2;
        private static final int DIGITS = 3;
        private static final int VAR = 4;
        private static final int PROC = 5;
        private static final int IF_WORD = 6;
        private static final int ELSE_WORD = 7;
        private static final int WHILE = 8;
        private static final int RETURN = 9;
        private static final int OUT = 10;
        private static final int IN = 11;
        private static final int SAME = 128;
        private static final int UNLIKE = 129;
        private static final int AT_MOST = 130;
        private static final int LEFT = 131;
        private static final int RIGHT = 132;
        private static final String SIGNS = "(){}[];,=<+-*/%&|^!~";
        private static final int MOST_OPEN = 20;
        private static final int MOST_ARGUMENTS = 4;
        private static final int MOST_WORDS = 200;
        private static final int MOST_LOCAL_WORDS = 400;
        private static final int TOO_DEEP = 8;
        private static final int TOKEN_ROW = 3;
        private static final int TOKEN_PLACE = 1;
        private static final int TOKEN_VALUE = 2;
        private static final int LOCAL_ROW = 3;
        private static final int OFFSET = 1;
        private static final int LOCAL_WORDS = 2;
        static final int USE_ROW = 6;
        private static final int USE_PLACE = 1;
        static final int USE_KIND = 2;
        static final int USE_OFFSET = 3;
        static final int USE_WORDS = 4;
        static final int USE_TARGET = 5;

        int faultKind;
        int faultPlace;
        private final Names names;
        private Draft draft;
        private final int[] tokens = new int[(MOST_SIGNS + 2) * TOKEN_ROW];
        private int at;
        private int open;
        private int wrongAt;
        private int twiceAt;
        private int muchAt;
        /** A name and what parts it from the next one are two signs. */
        final int[] uses = new int[(MOST_SIGNS / 2 + 1) * USE_ROW];
        int useCount;
        private final int[] locals = new int[MOST_SIGNS / 4 * LOCAL_ROW];
        private int localCount;
        private int procedure;
        /** Of each label of a statement: the item behind it. */
        final int[] labels = new int[MOST_SIGNS / 4];
        int labelCount;

        Reader(Names names) {
            this.names = names;
        }

        void read(byte[] text, int size, Draft into) {
            names.clear();
            into.clear();
            draft = into;
            at = 0;
            open = 0;
            wrongAt = NONE;
            twiceAt = NONE;
            muchAt = NONE;
            useCount = 0;
            localCount = 0;
            labelCount = 0;
            split(text, size);
            for (int i = 0; i <= size && kind() != END; i++) {
                if (kind() == VAR) {
                    pass();
                    variable(false);
                } else if (kind() == PROC) {
                    pass();
                    procedure();
                } else {
                    wrong();
                }
            }
            judge();
        }

        private void judge() {
            faultKind = 0;
            faultPlace = NONE;
            if (wrongAt != NONE) {
                faultKind = 1;
                faultPlace = wrongAt;
            } else if (twiceAt != NONE) {
                faultKind = 2;
                faultPlace = twiceAt;
            } else {
                int unlike = aimUses();
                if (unlike != NONE) {
                    faultKind = 3;
                    faultPlace = unlike;
                } else if (muchAt != NONE) {
                    faultKind = 4;
                    faultPlace = muchAt;
                }
            }
        }

        // Tokens

        /** Splits the text into tokens up to its end or the first sign that begins none. */
        private void split(byte[] text, int size) {
            int place = 0;
            for (int i = 0; i <= size; i++) {
                place = behindBlanks(text, place, size);
                int row = i * TOKEN_ROW;
                tokens[row + TOKEN_PLACE] = place;
                if (place >= size) {
                    tokens[row] = END;
                    return;
                }
                if (isSmallLetter(text[place])) {
                    place = wordToken(text, place, size, row);
                } else if (isDigit(text[place])) {
                    place = numberToken(text, place, size, row);
                } else {
                    tokens[row] = signToken(text[place], place + 1 < size ? text[place + 1] : 0);
                    place += tokens[row] >= SAME ? 2 : 1;
                }
                if (tokens[row] == BAD) {
                    return;
                }
            }
        }

        private static int behindBlanks(byte[] text, int from, int size) {
            boolean remark = false;
            for (int p = from; p < size; p++) {
                if (text[p] == '\n') {
                    remark = false;
                } else if (text[p] == '#') {
                    remark = true;
                } else if (!remark && text[p] != ' ') {
                    return p;
                }
            }
            return size;
        }

        private int wordToken(byte[] text, int from, int size, int row) {
            int to = from;
            while (to < size && (isSmallLetter(text[to]) || isDigit(text[to]))) {
                to++;
            }
            int id = to - from > 8 ? NONE : names.numberOf(Names.pack(text, from, to), 0);
            tokens[row + TOKEN_VALUE] = id;
            if (id < 0) {
                tokens[row] = BAD;
            } else if (id >= FIRST_KEYWORD && id < FIRST_KEYWORD + KEYWORD_COUNT) {
                tokens[row] = VAR + id - FIRST_KEYWORD;
            } else {
                tokens[row] = NAME;
            }
            return to;
        }

        private int numberToken(byte[] text, int from, int size, int row) {
            int to = from;
            long number = 0;
            while (to < size && isDigit(text[to])) {
                number = to - from < 10 ? number * 10 + text[to] - '0' : Long.MAX_VALUE;
                to++;
            }
            tokens[row] = number > Integer.MAX_VALUE ? BAD : DIGITS;
            tokens[row + TOKEN_VALUE] = (int) number;
            return to;
        }

        private static int signToken(int sign, int behind) {
            if (behind == '=' && sign == '=') {
                return SAME;
            }
            if (behind == '=' && sign == '!') {
                return UNLIKE;
            }
            if (behind == '=' && sign == '<') {
                return AT_MOST;
            }
            if (behind == '<' && sign == '<') {
                return LEFT;
            }
            if (behind == '>' && sign == '>') {
                return RIGHT;
            }
            return SIGNS.indexOf((char) sign) >= 0 ? sign : BAD;
        }

        /** The token at hand; behind a fault there are none. */
        private int kind() {
            return wrongAt == NONE ? tokens[at * TOKEN_ROW] : END;
        }

        private int place() {
            return tokens[at * TOKEN_ROW + TOKEN_PLACE];
        }

        private int tokenValue() {
            return tokens[at * TOKEN_ROW + TOKEN_VALUE];
        }

        private void pass() {
            if (kind() != END) {
                at++;
            }
        }

        private void wrong() {
            if (wrongAt == NONE) {
                wrongAt = tokens[at * TOKEN_ROW + TOKEN_PLACE];
            }
        }

        private void expect(int sign) {
            if (kind() == sign) {
                at++;
            } else {
                wrong();
            }
        }

        /** Passes one of the signs that open something, if it may be opened. */
        private boolean enter(int sign) {
            if (kind() != sign || open >= MOST_OPEN) {
                wrong();
                return false;
            }
            open++;
            at++;
            return true;
        }

        private void leave(int sign) {
            if (kind() == sign) {
                at++;
            } else {
                wrong();
            }
            open--;
        }

        private void twice(int place) {
            if (twiceAt == NONE) {
                twiceAt = place;
            }
        }

        private void much(int place) {
            if (muchAt == NONE || place < muchAt) {
                muchAt = place;
            }
        }

        // Declarations

        /** A variable or array, behind its var. */
        private void variable(boolean local) {
            if (kind() != NAME) {
                wrong();
                return;
            }
            int id = tokenValue();
            int place = place();
            pass();
            int words = kind() == '[' ? arraySize() : 0;
            expect(';');
            if (wrongAt != NONE) {
                return;
            }
            if (local) {
                addLocal(id, place, words);
            } else {
                int number = declare(id, place, words == 0 ? 1 : 2, words);
                draft.add(words == 0 ? ITEM_VARIABLE : ITEM_ARRAY, 0, number);
            }
        }

        private int arraySize() {
            if (!enter('[')) {
                return 0;
            }
            int words = tokenValue();
            if (kind() != DIGITS || words < 1 || words > MOST_WORDS) {
                wrong();
                return 0;
            }
            pass();
            leave(']');
            return words;
        }

        private int declare(int id, int place, int kind, int words) {
            int number = draft.declaredCount;
            if (names.owner[id] >= 0) {
                twice(place);
            }
            if (number >= Draft.MOST_DECLARED) {
                much(place);
                return 0;
            }
            if (number >= MOST_NAMES) {
                much(place);
            }
            names.owner[id] = number;
            draft.declaredNames[number] = names.first[id];
            int row = number * Draft.ROW;
            draft.declared[row + Draft.KIND_TOLD] = kind;
            draft.declared[row + Draft.WORDS] = words;
            draft.declared[row + Draft.LOCALS] = 0;
            draft.declared[row + Draft.SAVED] = 0;
            draft.declared[row + Draft.LABELS] = labelCount;
            draft.declared[row + Draft.ENTRY] = draft.itemCount;
            draft.declaredCount++;
            return number;
        }

        /** A variable of a procedure has words 0 here, an array its size. */
        private void addLocal(int id, int place, int words) {
            int row = procedure * Draft.ROW;
            int offset = draft.declared[row + Draft.KIND_TOLD] - 3 + draft.declared[row + Draft.LOCALS];
            draft.declared[row + Draft.LOCALS] += Math.max(words, 1);
            if (draft.declared[row + Draft.LOCALS] > MOST_LOCAL_WORDS) {
                much(place);
            }
            show(id, place, offset, words);
        }

        /** From here on the name is a local or parameter. */
        private void show(int id, int place, int offset, int words) {
            int row = localCount * LOCAL_ROW;
            if (names.value[id] != 0) {
                twice(place);
            } else if (row + LOCAL_ROW <= locals.length) {
                locals[row] = id;
                locals[row + OFFSET] = offset;
                locals[row + LOCAL_WORDS] = words;
                localCount++;
                names.value[id] = localCount;
            }
        }

        private void hide(int visible) {
            while (localCount > visible) {
                localCount--;
                names.value[locals[localCount * LOCAL_ROW]] = 0;
            }
        }

        /** A procedure, behind its proc. */
        private void procedure() {
            if (kind() != NAME) {
                wrong();
                return;
            }
            procedure = declare(tokenValue(), place(), 3, 0);
            pass();
            if (!enter('(')) {
                return;
            }
            parameters();
            leave(')');
            draft.add(ITEM_PROCEDURE, 0, procedure);
            block();
            draft.add(ITEM_CLOSE, 0, procedure);
            hide(0);
        }

        private void parameters() {
            if (kind() == ')') {
                return;
            }
            for (int k = 0; k < MOST_ARGUMENTS; k++) {
                if (kind() != NAME) {
                    wrong();
                    return;
                }
                show(tokenValue(), place(), k, 0);
                draft.declared[procedure * Draft.ROW + Draft.KIND_TOLD]++;
                pass();
                if (kind() != ',' || k + 1 == MOST_ARGUMENTS) {
                    return;
                }
                pass();
            }
        }

        // Statements

        private void block() {
            if (!enter('{')) {
                return;
            }
            int visible = localCount;
            for (int i = 0; i <= MOST_SIGNS && wrongAt == NONE && kind() != '}'; i++) {
                statement();
            }
            leave('}');
            hide(visible);
        }

        private void statement() {
            draft.add(ITEM_STEP, 0, 0);
            int kind = kind();
            if (kind == NAME) {
                named();
                return;
            }
            if (kind < VAR || kind > OUT || kind == PROC || kind == ELSE_WORD) {
                wrong();
                return;
            }
            pass();
            if (kind == VAR) {
                variable(true);
            } else if (kind == IF_WORD) {
                choice();
            } else if (kind == WHILE) {
                loop();
            } else if (kind == RETURN) {
                expression(0);
                expect(';');
                draft.add(ITEM_RETURN, 0, 0);
            } else if (condition()) {
                expect(';');
                draft.add(ITEM_OUT, 0, 0);
            }
        }

        private void named() {
            int use = addUse();
            pass();
            if (kind() == '(') {
                call(use, 0);
                draft.add(ITEM_SEND, 0, use);
            } else if (kind() == '[') {
                index(use, 0);
                expect('=');
                expression(1);
                draft.add(ITEM_STORE, 0, use);
            } else {
                expect('=');
                expression(0);
                draft.add(ITEM_SET, 0, use);
            }
            expect(';');
        }

        /** An E in ( ), as if, while and out have it. */
        private boolean condition() {
            if (!enter('(')) {
                return false;
            }
            expression(0);
            leave(')');
            return wrongAt == NONE;
        }

        private void choice() {
            if (!condition()) {
                return;
            }
            int behind = takeLabel();
            draft.add(ITEM_UNLESS, 0, behind);
            block();
            if (kind() != ELSE_WORD) {
                setLabel(behind);
                return;
            }
            pass();
            int last = takeLabel();
            draft.add(ITEM_JUMP, 0, last);
            setLabel(behind);
            block();
            setLabel(last);
        }

        private void loop() {
            int again = takeLabel();
            int behind = takeLabel();
            setLabel(again);
            draft.add(ITEM_STEP, 0, 0);
            if (!condition()) {
                return;
            }
            draft.add(ITEM_UNLESS, 0, behind);
            block();
            draft.add(ITEM_JUMP, 0, again);
            setLabel(behind);
        }

        private int takeLabel() {
            if (labelCount + 1 < labels.length) {
                labelCount++;
            }
            return labelCount - 1;
        }

        private void setLabel(int label) {
            labels[label] = draft.itemCount;
            draft.add(ITEM_LABEL, 0, label);
        }

        // Expressions

        private void expression(int depth) {
            sum(depth);
            int item = itemOf(kind());
            if (item >= ITEM_SAME) {
                pass();
                sum(depth + 1);
                draft.add(item, depth, 0);
            }
        }

        private void sum(int depth) {
            product(depth);
            for (int i = 0; i <= MOST_SIGNS; i++) {
                int item = itemOf(kind());
                if (item < ITEM_ADD || item > ITEM_XOR) {
                    return;
                }
                pass();
                product(depth + 1);
                draft.add(item, depth, 0);
            }
        }

        private void product(int depth) {
            factor(depth);
            for (int i = 0; i <= MOST_SIGNS; i++) {
                int item = itemOf(kind());
                if (item < ITEM_MUL || item > ITEM_RIGHT) {
                    return;
                }
                pass();
                factor(depth + 1);
                draft.add(item, depth, 0);
            }
        }

        /** What a sign between two parts does, NONE for all other tokens. */
        private static int itemOf(int kind) {
            switch (kind) {
                case '+':
                    return ITEM_ADD;
                case '-':
                    return ITEM_SUB;
                case '|':
                    return ITEM_OR;
                case '^':
                    return ITEM_XOR;
                case '*':
                    return ITEM_MUL;
                case '/':
                    return ITEM_DIV;
                case '%':
                    return ITEM_REM;
                case '&':
                    return ITEM_AND;
                case LEFT:
                    return ITEM_LEFT;
                case RIGHT:
                    return ITEM_RIGHT;
                case SAME:
                    return ITEM_SAME;
                case UNLIKE:
                    return ITEM_UNLIKE;
                case '<':
                    return ITEM_LESS;
                case AT_MOST:
                    return ITEM_MOST;
                default:
                    return NONE;
            }
        }

        private void factor(int depth) {
            if (depth >= TOO_DEEP) {
                much(place());
            }
            int kind = kind();
            if (kind == '-' || kind == '!' || kind == '~') {
                if (enter(kind)) {
                    factor(depth);
                    open--;
                    draft.add(kind == '-' ? ITEM_MINUS : kind == '!' ? ITEM_NOT : ITEM_TURN, depth, 0);
                }
            } else if (kind == DIGITS) {
                draft.add(ITEM_NUMBER, depth, tokenValue());
                pass();
            } else if (kind == IN) {
                pass();
                if (enter('(')) {
                    leave(')');
                }
                draft.add(ITEM_IN, depth, 0);
            } else if (kind == NAME) {
                nameFactor(depth);
            } else if (enter('(')) {
                expression(depth);
                leave(')');
            }
        }

        private void nameFactor(int depth) {
            int use = addUse();
            pass();
            if (kind() == '(') {
                call(use, depth);
                draft.add(ITEM_CALL, depth, use);
            } else if (kind() == '[') {
                index(use, depth);
                draft.add(ITEM_FETCH, depth, use);
            } else {
                draft.add(ITEM_GET, depth, use);
            }
        }

        /** [ E ] behind an array's name, and its check. */
        private void index(int use, int depth) {
            uses[use * USE_ROW + USE_KIND] = 2;
            if (enter('[')) {
                expression(depth);
                leave(']');
                draft.add(ITEM_CHECK, depth, use);
            }
        }

        /** ( ARGUMENTS ) behind a procedure's name. */
        private void call(int use, int depth) {
            if (!enter('(')) {
                return;
            }
            int row = procedure * Draft.ROW + Draft.SAVED;
            draft.declared[row] = Math.max(draft.declared[row], depth);
            int count = 0;
            for (int k = 0; k < MOST_ARGUMENTS && kind() != ')'; k++) {
                expression(depth + k);
                count++;
                if (kind() != ',' || k + 1 == MOST_ARGUMENTS) {
                    break;
                }
                pass();
                if (kind() == ')') {
                    wrong();
                }
            }
            uses[use * USE_ROW + USE_KIND] = 3 + count;
            leave(')');
        }

        // Uses of names

        /** The name at hand is used; as a variable, if nothing else is told of it later. */
        private int addUse() {
            if ((useCount + 1) * USE_ROW > uses.length) {
                wrong();
                return 0;
            }
            int row = useCount * USE_ROW;
            int id = tokenValue();
            int local = names.value[id] - 1;
            uses[row] = id;
            uses[row + USE_PLACE] = place();
            uses[row + USE_KIND] = 1;
            uses[row + USE_OFFSET] = local < 0 ? NONE : locals[local * LOCAL_ROW + OFFSET];
            uses[row + USE_WORDS] = local < 0 ? 0 : locals[local * LOCAL_ROW + LOCAL_WORDS];
            uses[row + USE_TARGET] = NONE;
            useCount++;
            return useCount - 1;
        }

        /** Tells each use what it means: the place of the first one that is not as its name is declared, or NONE. */
        private int aimUses() {
            int outers = 0;
            for (int i = 0; i < useCount; i++) {
                int row = i * USE_ROW;
                int id = uses[row];
                int kind;
                if (uses[row + USE_OFFSET] >= 0) {
                    kind = uses[row + USE_WORDS] > 0 ? 2 : 1;
                } else if (names.owner[id] >= 0) {
                    uses[row + USE_TARGET] = names.owner[id];
                    kind = draft.declared[names.owner[id] * Draft.ROW + Draft.KIND_TOLD];
                } else {
                    if (names.mark[id] == 0) {
                        outers++;
                        addOuter(id, row, outers);
                    }
                    uses[row + USE_TARGET] = MOST_NAMES + names.mark[id] - 1;
                    kind = names.value[id];
                }
                if (kind != uses[row + USE_KIND]) {
                    return uses[row + USE_PLACE];
                }
            }
            return NONE;
        }

        /** Where a name is outer, its value is how it was used first: no local is visible any more. */
        private void addOuter(int id, int row, int number) {
            names.mark[id] = number;
            names.value[id] = uses[row + USE_KIND];
            if (number > MOST_NAMES) {
                much(uses[row + USE_PLACE]);
                return;
            }
            draft.outerNames[number - 1] = names.first[id];
            draft.outerKinds[number - 1] = uses[row + USE_KIND];
            draft.outerCount = number;
        }
    }

    /** The lines of an assembly's text as they come: with macros, .repts and .ifs. */
    static final class Lines {
        private static final int MOST_OPEN = 10;
        private static final int MOST_IFS = 8;
        private static final int MOST_MACROS = 12;
        private static final int MOST_PARAMETERS = 4;
        private static final int MOST_GIVEN = 200;
        private static final int FRAME_ROW = 8;
        private static final int AT = 0;
        private static final int FROM = 1;
        private static final int TO = 2;
        private static final int TIMES = 3;
        /** The frame of the macro whose arguments hold here, or NONE. */
        private static final int CALLER = 4;
        private static final int CALLED = 5;
        private static final int CALL_NUMBER = 6;
        private static final int IFS = 7;
        private static final int MACRO_ROW = 3;
        private static final int MACRO_TO = 1;
        private static final int PARAMETERS = 2;
        private static final int MACRO_WORDS = 2 * (1 + MOST_PARAMETERS);
        private static final int BOUND_ROW = MOST_PARAMETERS + 1;
        private static final int COMES = 1;
        private static final int CAME_AROUND = 2;
        private static final int TURNED = 4;

        /** The fault that advance() met, 0 without one. */
        int wrong;
        /** The text's line of what is at hand. */
        int line;
        /** The line that comes, without remarks, arguments filled in. */
        final byte[] given = new byte[MOST_SIGNS + 1];
        int length;
        private final Names names;
        private byte[] text;
        private int size;
        private int nextLine;
        private int came;
        /** The line at hand as it stands in the text. */
        private int from;
        private int to;
        /** Frame 0 is the text itself, the others are the macros and .repts that are open. */
        private final int[] frames = new int[(MOST_OPEN + 1) * FRAME_ROW];
        private int depth;
        private final int[] macros = new int[MOST_MACROS * MACRO_ROW];
        /** Of each macro, and of one that is about to be, its name and its parameters, two numbers each. */
        private final long[] macroWords = new long[(MOST_MACROS + 1) * MACRO_WORDS];
        private int macroCount;
        private int calls;
        private final byte[] arguments = new byte[2 * MOST_SIGNS];
        private final int[] bounds = new int[(MOST_OPEN + 2) * BOUND_ROW];
        private final int[] ifs = new int[2 * MOST_IFS];
        private int ifCount;

        Lines(Names names) {
            this.names = names;
        }

        void begin(byte[] of, int signs) {
            text = of;
            size = signs;
            wrong = 0;
            line = 0;
            nextLine = 0;
            came = 0;
            macroCount = 0;
            calls = 0;
            ifCount = 0;
            depth = NONE;
            push(0, size + 1, 1, NONE);
        }

        private void push(int first, int behind, int times, int caller) {
            depth++;
            int f = depth * FRAME_ROW;
            frames[f + AT] = first;
            frames[f + FROM] = first;
            frames[f + TO] = behind;
            frames[f + TIMES] = times;
            frames[f + CALLER] = caller;
            frames[f + IFS] = ifCount;
        }

        /** Goes on to the next line; false at the text's end or with a fault. */
        boolean advance() {
            for (int i = 0; i <= MOST_OPEN + 2; i++) {
                int f = depth * FRAME_ROW;
                if (frames[f + AT] < frames[f + TO]) {
                    wrong = take() ? 0 : TOO_MUCH;
                    return wrong == 0;
                }
                if (ifCount > frames[f + IFS]) {
                    line = ifs[2 * ifCount - 1];
                    wrong = MISPLACED;
                    return false;
                }
                if (depth == 0) {
                    return false;
                }
                frames[f + TIMES]--;
                if (frames[f + TIMES] > 0 && frames[f + FROM] < frames[f + TO]) {
                    frames[f + AT] = frames[f + FROM];
                } else {
                    depth--;
                }
            }
            return false;
        }

        /** Looks at the next line of the frame at hand; false if it is one too many. */
        private boolean take() {
            int f = depth * FRAME_ROW;
            came++;
            from = frames[f + AT];
            to = NONE;
            int p = from;
            while (p < size && text[p] != '\n') {
                if (text[p] == '#' && to == NONE) {
                    to = p;
                }
                p++;
            }
            to = to == NONE ? p : to;
            frames[f + AT] = p + 1;
            if (depth == 0) {
                line = nextLine;
                nextLine++;
            }
            return came <= MOST_LINES;
        }

        /** The number of the first word of the line as it stands in the text, or NONE. */
        private int firstWord() {
            int p = from;
            while (p < to && text[p] == ' ') {
                p++;
            }
            int q = p;
            while (q < to && isWordSign(text[q])) {
                q++;
            }
            return q - p > WORD_SIGNS ? NONE : names.find(Names.pack(text, p, q), Names.pack(text, p + 8, q));
        }

        // .if

        boolean comes() {
            return ifCount == 0 || (ifs[2 * ifCount - 2] & COMES) != 0;
        }

        /** A line that doesn't come: the fault's kind, or 0. */
        int passOver() {
            int word = firstWord();
            if (word == IF || word == IFSAME) {
                return openIf(false);
            }
            if (word == ELSE) {
                return turnIf();
            }
            return word == ENDIF ? closeIf() : 0;
        }

        int openIf(boolean holds) {
            if (ifCount >= MOST_IFS) {
                return TOO_MUCH;
            }
            ifs[2 * ifCount] = !comes() ? 0 : holds ? CAME_AROUND | COMES : CAME_AROUND;
            ifs[2 * ifCount + 1] = line;
            ifCount++;
            return 0;
        }

        int turnIf() {
            if (ifCount <= frames[depth * FRAME_ROW + IFS] || (ifs[2 * ifCount - 2] & TURNED) != 0) {
                return MISPLACED;
            }
            int was = ifs[2 * ifCount - 2];
            ifs[2 * ifCount - 2] = (was & CAME_AROUND) == 0 ? TURNED : was ^ COMES | TURNED;
            return 0;
        }

        int closeIf() {
            if (ifCount <= frames[depth * FRAME_ROW + IFS]) {
                return MISPLACED;
            }
            ifCount--;
            return 0;
        }

        // Macros and .rept

        int macroNamed(long a, long b) {
            for (int i = 0; i < macroCount; i++) {
                if (macroWords[i * MACRO_WORDS] == a && macroWords[i * MACRO_WORDS + 1] == b) {
                    return i;
                }
            }
            return NONE;
        }

        /** A parameter of the macro that is about to be defined: whether it may be one. */
        boolean parameter(int number, long a, long b) {
            if (number < 0 || number >= MOST_PARAMETERS) {
                return false;
            }
            int own = macroCount * MACRO_WORDS;
            for (int i = 1; i <= number; i++) {
                if (macroWords[own + 2 * i] == a && macroWords[own + 2 * i + 1] == b) {
                    return false;
                }
            }
            macroWords[own + 2 + 2 * number] = a;
            macroWords[own + 3 + 2 * number] = b;
            return true;
        }

        /** The lines up to the .endm become a macro: the fault's kind, or 0. */
        int define(long a, long b, int parameters) {
            if (depth > 0) {
                return MISPLACED;
            }
            int opener = line;
            int body = frames[AT];
            int fault = keep(true);
            // Of the .macro's own line a missing .endm is told ahead of one macro too many; faults of later lines are not.
            boolean unclosed = fault == MISPLACED && line == opener;
            if (macroCount >= MOST_MACROS && !unclosed) {
                line = opener;
                return TOO_MUCH;
            }
            if (fault != 0) {
                return fault;
            }
            macroWords[macroCount * MACRO_WORDS] = a;
            macroWords[macroCount * MACRO_WORDS + 1] = b;
            macros[macroCount * MACRO_ROW] = body;
            macros[macroCount * MACRO_ROW + MACRO_TO] = from;
            macros[macroCount * MACRO_ROW + PARAMETERS] = parameters;
            macroCount++;
            return 0;
        }

        /** The lines up to the .endr come so many times: the fault's kind, or 0. */
        int repeat(int times) {
            int opener = line;
            int body = frames[depth * FRAME_ROW + AT];
            // A missing .endr is told ahead of one too many that are open, so it is looked for first.
            int fault = keep(false);
            if (fault != 0) {
                return fault;
            }
            line = opener;
            if (times > 0 && depth >= MOST_OPEN) {
                return TOO_MUCH;
            }
            if (times > 0) {
                push(body, from, times, frames[depth * FRAME_ROW + CALLER]);
            }
            return 0;
        }

        /** Goes behind the line that closes a macro or .rept; that line is the one at hand then. */
        private int keep(boolean macro) {
            int opener = line;
            int open = 1;
            for (int i = 0; i <= MOST_LINES; i++) {
                int f = depth * FRAME_ROW;
                if (frames[f + AT] >= frames[f + TO]) {
                    line = opener;
                    return MISPLACED;
                }
                if (!take()) {
                    return TOO_MUCH;
                }
                int word = firstWord();
                if (macro && word == MACRO) {
                    return MISPLACED;
                }
                if (word == (macro ? ENDM : ENDR)) {
                    open--;
                } else if (!macro && word == REPT) {
                    open++;
                }
                if (open == 0) {
                    return 0;
                }
            }
            return TOO_MUCH;
        }

        /** Calls a macro with what stands in the line from a place on: the fault's kind, or 0. */
        int call(int macro, int place) {
            int wanted = macros[macro * MACRO_ROW + PARAMETERS];
            int caller = frames[depth * FRAME_ROW + CALLER];
            int row = (depth + 1) * BOUND_ROW;
            bounds[row] = caller < 0 ? 0 : bounds[caller * BOUND_ROW + argumentsOf(caller)];
            int count = 0;
            int p = place;
            for (int q = place; q <= length; q++) {
                if (q < length && given[q] != ',') {
                    continue;
                }
                if (count < wanted) {
                    argument(p, q, row + count);
                }
                boolean empty = isBlank(p, q);
                if (empty && (wanted > 0 || q < length) || !empty && count >= wanted) {
                    return MALFORMED;
                }
                count += empty ? 0 : 1;
                p = q + 1;
            }
            if (count != wanted) {
                return MALFORMED;
            }
            if (depth >= MOST_OPEN) {
                return TOO_MUCH;
            }
            push(macros[macro * MACRO_ROW], macros[macro * MACRO_ROW + MACRO_TO], 1, depth + 1);
            frames[depth * FRAME_ROW + CALLED] = macro;
            frames[depth * FRAME_ROW + CALL_NUMBER] = calls;
            calls++;
            return 0;
        }

        private int argumentsOf(int frame) {
            return macros[frames[frame * FRAME_ROW + CALLED] * MACRO_ROW + PARAMETERS];
        }

        private boolean isBlank(int first, int behind) {
            for (int p = first; p < behind; p++) {
                if (given[p] != ' ') {
                    return false;
                }
            }
            return true;
        }

        /** Keeps an argument, without blanks at its ends, behind those that are kept. */
        private void argument(int first, int behind, int bound) {
            int p = first;
            while (p < behind && given[p] == ' ') {
                p++;
            }
            int q = behind;
            while (q > p && given[q - 1] == ' ') {
                q--;
            }
            int start = bounds[bound];
            int count = Math.min(q - p, arguments.length - start);
            System.arraycopy(given, p, arguments, start, count);
            bounds[bound + 1] = start + count;
        }

        /** Makes the line that comes of the one at hand: the fault's kind, or 0. */
        int expand() {
            length = 0;
            int caller = frames[depth * FRAME_ROW + CALLER];
            for (int p = from; p < to; p++) {
                if (text[p] != '\\' || caller < 0) {
                    give(text[p]);
                    continue;
                }
                int q = p + 1;
                if (q < to && text[q] == '@') {
                    giveNumber(frames[caller * FRAME_ROW + CALL_NUMBER]);
                } else {
                    while (q < to && isWordSign(text[q]) && text[q] != '.') {
                        q++;
                    }
                    if (!giveArgument(caller, p + 1, q)) {
                        return MALFORMED;
                    }
                    q--;
                }
                p = q;
            }
            return caller >= 0 && length > MOST_GIVEN ? TOO_MUCH : 0;
        }

        private void give(byte sign) {
            if (length < given.length) {
                given[length] = sign;
            }
            length++;
        }

        private void giveNumber(int number) {
            int unit = 1;
            while (unit <= 100000 && number / unit >= 10) {
                unit *= 10;
            }
            for (; unit > 0; unit /= 10) {
                give((byte) ('0' + number / unit % 10));
            }
        }

        private boolean giveArgument(int caller, int first, int behind) {
            int own = frames[caller * FRAME_ROW + CALLED] * MACRO_WORDS;
            long a = Names.pack(text, first, behind);
            long b = Names.pack(text, first + 8, behind);
            int count = behind - first > WORD_SIGNS ? 0 : argumentsOf(caller);
            for (int j = 0; j < count; j++) {
                if (macroWords[own + 2 + 2 * j] == a && macroWords[own + 3 + 2 * j] == b) {
                    for (int p = bounds[caller * BOUND_ROW + j]; p < bounds[caller * BOUND_ROW + j + 1]; p++) {
                        give(arguments[p]);
                    }
                    return true;
                }
            }
            return false;
        }
    }

    /** The tokens of a line of assembly, and the operands that are read of them. */
    static final class Scanner {
        static final int END = 0;
        static final int BAD = 1;
        static final int NAME = 2;
        static final int DIGITS = 3;
        static final int BACK = 4;
        static final int AHEAD = 5;
        static final int REGISTER = 6;
        static final int HI = 7;
        static final int LO = 8;
        static final int IS_CONSTANT = 1;
        private static final String SIGNS = ",:()+-";

        /** The kind of the fault that counts most in this line, 0 without one. */
        int worst;
        /** The number of the value that was read last. */
        int sum;
        /** The token that is its label, NONE without one. */
        int label;
        private final Names names;
        private byte[] line;
        private int size;
        private final int[] kinds = new int[MOST_SIGNS + 2];
        private final int[] numbers = new int[MOST_SIGNS + 2];
        private final int[] ends = new int[MOST_SIGNS + 2];
        private final long[] firsts = new long[MOST_SIGNS + 2];
        private final long[] seconds = new long[MOST_SIGNS + 2];
        private int at;

        Scanner(Names names) {
            this.names = names;
        }

        void begin(byte[] of, int length) {
            line = of;
            size = Math.min(length, MOST_SIGNS);
            worst = 0;
            at = 0;
            int p = 0;
            for (int i = 0; i <= size; i++) {
                while (p < size && line[p] == ' ') {
                    p++;
                }
                kinds[i] = END;
                if (p < size) {
                    p = token(i, p);
                }
                ends[i] = p;
                if (kinds[i] <= BAD) {
                    return;
                }
            }
        }

        private int token(int i, int p) {
            int sign = line[p];
            if (isDigit(sign)) {
                return numberToken(i, p);
            }
            if (isWordSign(sign)) {
                int q = behindWord(p);
                kinds[i] = q - p > WORD_SIGNS ? BAD : NAME;
                firsts[i] = Names.pack(line, p, q);
                seconds[i] = Names.pack(line, p + 8, q);
                numbers[i] = names.find(firsts[i], seconds[i]);
                return q;
            }
            if (sign == '$') {
                return registerToken(i, p);
            }
            if (sign == '%') {
                int q = behindWord(p + 1);
                boolean part = q - p == 3;
                boolean hi = part && line[p + 1] == 'h' && line[p + 2] == 'i';
                boolean lo = part && line[p + 1] == 'l' && line[p + 2] == 'o';
                kinds[i] = hi ? HI : lo ? LO : BAD;
                return q;
            }
            kinds[i] = SIGNS.indexOf((char) sign) >= 0 ? sign : BAD;
            return p + 1;
        }

        private int behindWord(int p) {
            int q = p;
            while (q < size && isWordSign(line[q])) {
                q++;
            }
            return q;
        }

        /** A number or reference: all signs of a word up to another one belong to it. */
        private int numberToken(int i, int p) {
            int q = behindWord(p);
            int last = line[q - 1];
            firsts[i] = q - p;
            if (q - p == 2 && (last == 'b' || last == 'f')) {
                kinds[i] = last == 'b' ? BACK : AHEAD;
                numbers[i] = line[p] - '0';
                return q;
            }
            boolean hex = q - p > 2 && line[p] == '0' && line[p + 1] == 'x';
            long number = 0;
            kinds[i] = q - p > 10 ? BAD : DIGITS;
            for (int k = hex ? p + 2 : p; k < q && kinds[i] == DIGITS; k++) {
                int sign = line[k];
                if (isDigit(sign)) {
                    number = number * (hex ? 16 : 10) + sign - '0';
                } else if (hex && sign >= 'a' && sign <= 'f') {
                    number = number * 16 + sign - 'a' + 10;
                } else {
                    kinds[i] = BAD;
                }
            }
            if (number > 0xFFFFFFFFL) {
                kinds[i] = BAD;
            }
            numbers[i] = (int) number;
            return q;
        }

        private int registerToken(int i, int p) {
            int q = p + 1;
            while (q < size && (isSmallLetter(line[q]) || isDigit(line[q]))) {
                q++;
            }
            int id = q - p > 5 ? NONE : names.find(Names.pack(line, p, q), 0);
            kinds[i] = id >= FIRST_REGISTER && id < FIRST_REGISTER + 64 ? REGISTER : BAD;
            numbers[i] = id - FIRST_REGISTER & 31;
            return q;
        }

        int kind() {
            return kinds[at];
        }

        boolean colonBehind() {
            return kinds[at] > BAD && kinds[at + 1] == ':';
        }

        /** Whether the token at hand is one digit. */
        boolean isOneDigit() {
            return kinds[at] == DIGITS && firsts[at] == 1;
        }

        /** The digit, or the number that the word has in names, or NONE. */
        int number() {
            return numbers[at];
        }

        long first() {
            return firsts[at];
        }

        long second() {
            return seconds[at];
        }

        /** Where the line goes on behind the token at hand. */
        int behind() {
            return ends[at];
        }

        void pass() {
            if (kinds[at] > BAD) {
                at++;
            }
        }

        /** Of the faults of a line the least kind counts, so the first kind is set without asking. */
        void meet(int kind) {
            if (kind != 0 && (worst == 0 || kind < worst)) {
                worst = kind;
            }
        }

        void expect(int sign) {
            if (kinds[at] == sign) {
                at++;
            } else {
                worst = MALFORMED;
            }
        }

        void close() {
            if (kinds[at] != END) {
                worst = MALFORMED;
            }
        }

        int reg(int shift) {
            if (kinds[at] != REGISTER) {
                worst = MALFORMED;
                return 0;
            }
            at++;
            return numbers[at - 1] << shift;
        }

        int commaReg(int shift) {
            expect(',');
            return reg(shift);
        }

        /** Reads a VALUE into sum and label. */
        void value() {
            sum = 0;
            label = NONE;
            boolean minus = kinds[at] == '-';
            at += minus ? 1 : 0;
            for (int i = 0; i <= size; i++) {
                int kind = kinds[at];
                int number = numbers[at];
                if (kind == NAME && number >= 0 && (names.mark[number] & IS_CONSTANT) != 0) {
                    kind = DIGITS;
                    number = names.value[number];
                }
                if (kind == DIGITS) {
                    sum += minus ? -number : number;
                } else if (kind >= NAME && kind <= AHEAD && !minus && label == NONE) {
                    label = at;
                } else {
                    worst = MALFORMED;
                    return;
                }
                at++;
                if (kinds[at] != '+' && kinds[at] != '-') {
                    return;
                }
                minus = kinds[at] == '-';
                at++;
            }
        }

        /** Reads a VALUE that is a number within bounds. */
        int whole(int low, int high) {
            value();
            if (label != NONE) {
                worst = MALFORMED;
            } else if (sum < low || sum > high) {
                meet(OUTSIDE);
            }
            return sum;
        }

        int commaWhole(int low, int high) {
            expect(',');
            return whole(low, high);
        }

        /** Reads a VALUE that has a label. */
        void target() {
            value();
            if (label == NONE) {
                worst = MALFORMED;
            }
        }

        /** Reads ( VALUE ) behind %hi or %lo: its half if it is a number. */
        int part() {
            boolean hi = kinds[at] == HI;
            at++;
            expect('(');
            value();
            expect(')');
            return label != NONE ? 0 : (hi ? sum + 32768 >> 16 : sum) & 65535;
        }

        int labelKind() {
            return label == NONE ? END : kinds[label];
        }

        long labelFirst() {
            return label == NONE ? 0 : firsts[label];
        }

        long labelSecond() {
            return label == NONE ? 0 : seconds[label];
        }

        int labelDigit() {
            return label == NONE ? 0 : numbers[label];
        }
    }

    /** Makes an object of a text in assembly. */
    static final class Assembler {
        private static final int WAITS = -2;
        private static final int IS_TOLD = 2;
        private static final int TOLD_GLOBAL = 4;
        private static final int KIND_SHIFT = 4;
        private static final int KIND_MASK = 15 << KIND_SHIFT;

        int faultKind;
        int faultLine;
        private final Names names;
        private final Lines lines;
        private final Scanner scan;
        private Unit unit;
        private int section;
        private boolean reorder;
        private int toldCount;
        private int constantCount;
        /** By digit: the newest use that waits for its next label, and where its latest label is. */
        private final int[] waiting = new int[10];
        private final int[] digitSections = new int[10];
        private final int[] digitPlaces = new int[10];
        /** By use: the use ahead of it that waits for the same digit, or NONE. */
        private final int[] chain = new int[MOST_USES];
        /** By section: the instruction that may go into a slot, or NONE; its use; the place of the latest label. */
        private final int[] lastPlaces = new int[MOST_SECTIONS];
        private final int[] lastOperations = new int[MOST_SECTIONS];
        private final int[] lastUses = new int[MOST_SECTIONS];
        private final int[] labelled = new int[MOST_SECTIONS];
        /** The sort of use that the instruction at hand makes of its value's label, or NONE. */
        private int sort;

        Assembler(Names names) {
            this.names = names;
            lines = new Lines(names);
            scan = new Scanner(names);
        }

        /** Whether the text has no fault. */
        boolean make(Unit made, byte[] text, int size) {
            names.clear();
            lines.begin(text, size);
            unit = made;
            unit.clear();
            reorder = true;
            toldCount = 0;
            constantCount = 0;
            Arrays.fill(waiting, NONE);
            Arrays.fill(digitSections, NONE);
            faultKind = 0;
            openSection(named("text"), 0, false);
            for (int i = 0; i <= MOST_LINES && faultKind == 0 && lines.advance(); i++) {
                faultKind = oneLine();
            }
            if (faultKind == 0) {
                faultKind = lines.wrong;
            }
            faultLine = lines.line;
            if (faultKind == 0) {
                settle();
            }
            return faultKind == 0;
        }

        private static long named(String word) {
            long packed = 0;
            for (int i = 0; i < word.length() && i < 8; i++) {
                packed |= (long) word.charAt(i) << 8 * i;
            }
            return packed;
        }

        /** Takes in the line at hand: its fault's kind, or 0. */
        private int oneLine() {
            if (!lines.comes()) {
                return lines.passOver();
            }
            int wrong = lines.expand();
            if (wrong != 0) {
                return wrong;
            }
            scan.begin(lines.given, lines.length);
            boolean labels = false;
            for (int i = 0; i < lines.length && scan.worst == 0 && scan.colonBehind(); i++) {
                labels = true;
                addLabel();
                scan.pass();
                scan.pass();
            }
            if (scan.worst != 0 || scan.kind() == Scanner.END) {
                return scan.worst;
            }
            if (scan.kind() != Scanner.NAME) {
                return MALFORMED;
            }
            int macro = lines.macroNamed(scan.first(), scan.second());
            int operation = scan.number();
            if (macro != NONE) {
                return lines.call(macro, scan.behind());
            }
            if (operation < 0 || operation >= OPERATIONS || labels && operation >= IF) {
                return MALFORMED;
            }
            if (operation < TEXT) {
                instruction(operation);
            } else if (operation == MACRO) {
                macroLine();
            } else if (operation < IF) {
                directive(operation);
            } else {
                control(operation);
            }
            return scan.worst;
        }

        // Labels

        private void addLabel() {
            int place = unit.sizeOf(section);
            if (scan.kind() == Scanner.NAME) {
                wordLabel();
            } else if (scan.isOneDigit()) {
                digitLabel(scan.number(), place);
            } else {
                scan.meet(MALFORMED);
            }
            labelled[section] = place;
        }

        private void wordLabel() {
            int id = names.find(scan.first(), scan.second());
            if (id >= 0 && (names.owner[id] >= 0 || (names.mark[id] & Scanner.IS_CONSTANT) != 0)) {
                scan.meet(TAKEN);
                return;
            }
            if (!unit.addLabel(scan.first(), scan.second(), section, lines.line)) {
                scan.meet(TOO_MUCH);
                return;
            }
            id = names.numberOf(scan.first(), scan.second());
            if (id >= 0) {
                names.owner[id] = unit.labelCount - 1;
            }
        }

        private void digitLabel(int digit, int place) {
            int use = waiting[digit];
            for (int i = 0; i < MOST_USES && use >= 0; i++) {
                unit.uses[use * Unit.USE_ROW + Unit.TARGET] = section;
                unit.uses[use * Unit.USE_ROW + Unit.NUMBER] += place;
                use = chain[use];
            }
            waiting[digit] = NONE;
            digitSections[digit] = section;
            digitPlaces[digit] = place;
        }

        // Instructions

        private void instruction(int operation) {
            scan.pass();
            if (unit.sections[section * Unit.SECTION_ROW + Unit.IS_DATA] != 0) {
                scan.meet(MALFORMED);
                return;
            }
            sort = NONE;
            int form = operation < INSTRUCTIONS ? FORMS[operation] : NONE;
            int word = form == MEMORY ? memory(operation) : form == NONE ? other(operation) : plain(operation, form);
            scan.close();
            if (scan.worst != 0) {
                return;
            }
            if (form != NONE) {
                boolean wide = form == MEMORY && sort == SORT_HI;
                if (wide) {
                    emit(LUI, BASES[LUI] | AT_AS_T, SORT_HI);
                    sort = SORT_LO;
                }
                emit(operation, word, sort);
            } else if (operation == LI) {
                emitNumber(word, scan.sum);
            } else {
                emitOther(operation, word);
            }
        }

        private int plain(int operation, int form) {
            int word = BASES[operation];
            switch (form) {
                case DST:
                    return word | scan.reg(D_SHIFT) | scan.commaReg(S_SHIFT) | scan.commaReg(T_SHIFT);
                case SHIFT:
                    return word | scan.reg(D_SHIFT) | scan.commaReg(T_SHIFT) | scan.commaWhole(0, 31) << N_SHIFT;
                case DTS:
                    return word | scan.reg(D_SHIFT) | scan.commaReg(T_SHIFT) | scan.commaReg(S_SHIFT);
                case ST:
                    return word | scan.reg(S_SHIFT) | scan.commaReg(T_SHIFT);
                case D:
                    return word | scan.reg(D_SHIFT);
                case S:
                    return word | scan.reg(S_SHIFT);
                case BREAKS:
                    return word | scan.whole(0, 1023) << T_SHIFT;
                case TSH:
                    return word | scan.reg(T_SHIFT) | scan.commaReg(S_SHIFT) | commaHalf(SORT_LO, -32768, 32767);
                case TSN:
                    return word | scan.reg(T_SHIFT) | scan.commaReg(S_SHIFT) | scan.commaWhole(0, 65535);
                case UPPER:
                    return word | scan.reg(T_SHIFT) | commaHalf(SORT_HI, 0, 65535);
                case BRANCH_ST:
                    return word | scan.reg(S_SHIFT) | scan.commaReg(T_SHIFT) | commaTarget();
                case BRANCH_S:
                    return word | scan.reg(S_SHIFT) | commaTarget();
                case JUMPS:
                    scan.target();
                    sort = SORT_JUMP;
                    return word;
                default:
                    return word;
            }
        }

        /** A number within bounds, or %hi or %lo as the sort says. */
        private int commaHalf(int partSort, int low, int high) {
            scan.expect(',');
            if (scan.kind() != (partSort == SORT_HI ? Scanner.HI : Scanner.LO)) {
                return scan.whole(low, high) & 65535;
            }
            int half = scan.part();
            sort = scan.label == NONE ? NONE : partSort;
            return half;
        }

        private int commaTarget() {
            scan.expect(',');
            scan.target();
            sort = SORT_BRANCH;
            return 0;
        }

        /** A load or store; with a label's address and no register its sort is SORT_HI: it needs a lui ahead of it. */
        private int memory(int operation) {
            int word = BASES[operation] | scan.reg(T_SHIFT);
            scan.expect(',');
            if (scan.kind() == Scanner.LO) {
                word |= scan.part();
                sort = scan.label == NONE ? NONE : SORT_LO;
            } else {
                scan.value();
                if (scan.kind() != '(') {
                    scan.meet(scan.label == NONE ? MALFORMED : 0);
                    sort = SORT_HI;
                    return word | AT_AS_S;
                }
                scan.meet(scan.label != NONE ? MALFORMED : scan.sum < -32768 || scan.sum > 32767 ? OUTSIDE : 0);
                word |= scan.sum & 65535;
            }
            scan.expect('(');
            word |= scan.reg(S_SHIFT);
            scan.expect(')');
            return word;
        }

        /** The operands of an operation that stands for others: its word without a base. */
        private int other(int operation) {
            switch (operation) {
                case NOP:
                    return 0;
                case MOVE:
                case NOT:
                    return scan.reg(D_SHIFT) | scan.commaReg(S_SHIFT);
                case NEG:
                    return scan.reg(D_SHIFT) | scan.commaReg(T_SHIFT);
                case LI:
                    int register = scan.reg(T_SHIFT);
                    scan.commaWhole(Integer.MIN_VALUE, Integer.MAX_VALUE);
                    return register;
                case LA:
                    return scan.reg(T_SHIFT) | commaTarget();
                case B:
                    scan.target();
                    return 0;
                case BEQZ:
                case BNEZ:
                    return scan.reg(S_SHIFT) | commaTarget();
                case BLT:
                case BGE:
                    return scan.reg(S_SHIFT) | scan.commaReg(T_SHIFT) | commaTarget();
                default:
                    return scan.reg(T_SHIFT) | scan.commaReg(S_SHIFT) | commaTarget();
            }
        }

        private void emitOther(int operation, int word) {
            switch (operation) {
                case NOP:
                    emit(SLL, 0, NONE);
                    break;
                case MOVE:
                    emit(ADDU, BASES[ADDU] | word, NONE);
                    break;
                case NOT:
                    emit(NOR, BASES[NOR] | word, NONE);
                    break;
                case NEG:
                    emit(SUBU, BASES[SUBU] | word, NONE);
                    break;
                case LA:
                    emit(LUI, BASES[LUI] | word, SORT_HI);
                    emit(ADDIU, BASES[ADDIU] | word | word << S_SHIFT - T_SHIFT, SORT_LO);
                    break;
                case B:
                case BEQZ:
                    emit(BEQ, BASES[BEQ] | word, SORT_BRANCH);
                    break;
                case BNEZ:
                    emit(BNE, BASES[BNE] | word, SORT_BRANCH);
                    break;
                default:
                    emit(SLT, BASES[SLT] | word | AT_AS_D, NONE);
                    int branch = operation == BLT || operation == BGT ? BNE : BEQ;
                    emit(branch, BASES[branch] | AT_AS_S, SORT_BRANCH);
                    break;
            }
        }

        /** What li stands for. */
        private void emitNumber(int register, int number) {
            if (number >= -32768 && number <= 32767) {
                emit(ADDIU, BASES[ADDIU] | register | number & 65535, NONE);
            } else if (number > 0 && number <= 65535) {
                emit(ORI, BASES[ORI] | register | number, NONE);
            } else {
                emit(LUI, BASES[LUI] | register | number >>> 16, NONE);
                if ((number & 65535) != 0) {
                    emit(ORI, BASES[ORI] | register | register << S_SHIFT - T_SHIFT | number & 65535, NONE);
                }
            }
        }

        /** Puts an instruction at the section's end, and its slot behind it, if it has one. */
        private void emit(int operation, int word, int useSort) {
            int place = unit.sizeOf(section);
            if ((place & 3) != 0) {
                scan.meet(OUTSIDE);
                return;
            }
            boolean slotted = reorder && Codes.turns(operation);
            boolean moved = slotted && movesLast(operation, word, place);
            int at = moved ? place - 4 : place;
            int use = useSort == NONE ? NONE : addUse(useSort, at);
            if (!unit.grow(section, slotted && !moved ? 8 : 4)) {
                scan.meet(TOO_MUCH);
                return;
            }
            if (moved) {
                unit.write(section, place, unit.wordAt(section, at), 4);
                if (lastUses[section] != NONE) {
                    unit.uses[lastUses[section] * Unit.USE_ROW + Unit.USE_PLACE] = place;
                }
            }
            unit.write(section, at, word, 4);
            boolean movable = reorder && !slotted && operation != SYSCALL && operation != BREAK;
            lastPlaces[section] = movable ? place : NONE;
            lastOperations[section] = operation;
            lastUses[section] = use;
        }

        /** Whether the section's last instruction may go into the slot of a branch or jump at a place. */
        private boolean movesLast(int operation, int word, int place) {
            if (lastPlaces[section] == NONE || lastPlaces[section] != place - 4 || labelled[section] == place) {
                return false;
            }
            int last = lastOperations[section];
            int lastWord = unit.wordAt(section, place - 4);
            int set = Codes.setBy(last, lastWord);
            if (set != 0 && Codes.reads(operation, word, set)) {
                return false;
            }
            return !Codes.linksBack(operation) || set != RA && !Codes.reads(last, lastWord, RA);
        }

        /** Notes that the label of the value at hand is used at a place: the use's number, or NONE. */
        private int addUse(int useSort, int place) {
            int digit = scan.labelDigit();
            if (scan.labelKind() == Scanner.BACK && digitSections[digit] == NONE) {
                scan.meet(LOST);
                return NONE;
            }
            int use = unit.addUse(section, place, useSort, scan.sum, lines.line);
            if (use == NONE || use >= MOST_USES) {
                scan.meet(TOO_MUCH);
                return NONE;
            }
            int row = use * Unit.USE_ROW;
            if (scan.labelKind() == Scanner.NAME) {
                unit.useNames[2 * use] = scan.labelFirst();
                unit.useNames[2 * use + 1] = scan.labelSecond();
            } else if (scan.labelKind() == Scanner.AHEAD) {
                unit.uses[row + Unit.TARGET] = WAITS;
                chain[use] = waiting[digit];
                waiting[digit] = use;
            } else {
                unit.uses[row + Unit.TARGET] = digitSections[digit];
                unit.uses[row + Unit.NUMBER] += digitPlaces[digit];
            }
            return use;
        }

        // Directives

        private void directive(int operation) {
            scan.pass();
            switch (operation) {
                case TEXT:
                case DATA:
                    sectionLine(operation == DATA);
                    break;
                case GLOBL:
                    tell(TOLD_GLOBAL, false);
                    break;
                case KIND:
                    tell(0, true);
                    break;
                case WANT:
                    want();
                    break;
                case WORD:
                    row(4, Integer.MIN_VALUE, Integer.MAX_VALUE);
                    break;
                case HALF:
                    row(2, -32768, 65535);
                    break;
                case BYTE:
                    row(1, -128, 255);
                    break;
                case SPACE:
                    int more = scan.whole(0, 4096);
                    scan.close();
                    fill(more);
                    break;
                case ALIGN:
                    align();
                    break;
                case SET:
                    constant();
                    break;
                default:
                    scan.close();
                    reorder = operation == REORDER;
                    break;
            }
        }

        private void sectionLine(boolean data) {
            long first = named(data ? "data" : "text");
            long second = 0;
            if (scan.kind() == Scanner.NAME) {
                first = scan.first();
                second = scan.second();
                scan.pass();
            }
            scan.close();
            if (scan.worst == 0) {
                openSection(first, second, data);
            }
        }

        private void openSection(long first, long second, boolean data) {
            int found = unit.findSection(first, second);
            if (found != NONE) {
                if (unit.sections[found * Unit.SECTION_ROW + Unit.IS_DATA] != (data ? 1 : 0)) {
                    scan.meet(TAKEN);
                }
                section = found;
                return;
            }
            if (!unit.addSection(first, second, data)) {
                scan.meet(TOO_MUCH);
                return;
            }
            section = unit.sectionCount - 1;
            lastPlaces[section] = NONE;
            labelled[section] = NONE;
        }

        /** .globl and .kind: what is told of a name. */
        private void tell(int mark, boolean hasKind) {
            long first = scan.first();
            long second = scan.second();
            scan.expect(Scanner.NAME);
            int kind = hasKind ? scan.commaWhole(0, 15) : 0;
            scan.close();
            if (scan.worst != 0) {
                return;
            }
            int id = names.find(first, second);
            if (id < 0 || (names.mark[id] & IS_TOLD) == 0) {
                if (toldCount >= MOST_TOLD) {
                    scan.meet(TOO_MUCH);
                    return;
                }
                toldCount++;
                id = names.numberOf(first, second);
            }
            if (id < 0) {
                return;
            }
            names.mark[id] |= IS_TOLD | mark;
            if (hasKind) {
                names.mark[id] = names.mark[id] & ~KIND_MASK | kind << KIND_SHIFT;
            }
        }

        private void want() {
            long first = scan.first();
            long second = scan.second();
            scan.expect(Scanner.NAME);
            int kind = scan.commaWhole(0, 15);
            scan.close();
            if (scan.worst == 0 && !unit.addWant(first, second, kind, lines.line)) {
                scan.meet(TOO_MUCH);
            }
        }

        /** .word, .half and .byte. */
        private void row(int width, int low, int high) {
            if ((unit.sizeOf(section) & width - 1) != 0) {
                scan.meet(OUTSIDE);
            }
            lastPlaces[section] = NONE;
            for (int i = 0; i <= lines.length && scan.worst != MALFORMED; i++) {
                if (width == 4) {
                    scan.value();
                } else {
                    scan.whole(low, high);
                }
                rowPart(width);
                if (scan.kind() != ',') {
                    break;
                }
                scan.pass();
            }
            scan.close();
        }

        private void rowPart(int width) {
            if (scan.worst == MALFORMED) {
                return;
            }
            int place = unit.sizeOf(section);
            if (scan.label != NONE) {
                addUse(SORT_WORD, place);
            }
            if (!unit.grow(section, width)) {
                scan.meet(TOO_MUCH);
                return;
            }
            unit.write(section, place, scan.label == NONE ? scan.sum : 0, width);
        }

        /** So many bytes 0. */
        private void fill(int more) {
            if (scan.worst != 0) {
                return;
            }
            lastPlaces[section] = NONE;
            if (!unit.grow(section, more)) {
                scan.meet(TOO_MUCH);
            }
        }

        private void align() {
            int power = scan.whole(0, 4);
            scan.close();
            if (scan.worst != 0) {
                return;
            }
            int row = section * Unit.SECTION_ROW;
            unit.sections[row + Unit.ALIGNMENT] = Math.max(unit.sections[row + Unit.ALIGNMENT], 1 << power);
            fill(-unit.sizeOf(section) & (1 << power) - 1);
        }

        private void constant() {
            long first = scan.first();
            long second = scan.second();
            scan.expect(Scanner.NAME);
            int number = scan.commaWhole(Integer.MIN_VALUE, Integer.MAX_VALUE);
            scan.close();
            if (scan.worst != 0) {
                return;
            }
            int id = names.find(first, second);
            if (id >= 0 && names.owner[id] >= 0) {
                scan.meet(TAKEN);
                return;
            }
            if (id < 0 || (names.mark[id] & Scanner.IS_CONSTANT) == 0) {
                if (constantCount >= MOST_CONSTANTS) {
                    scan.meet(TOO_MUCH);
                    return;
                }
                constantCount++;
                id = names.numberOf(first, second);
            }
            if (id >= 0) {
                names.mark[id] |= Scanner.IS_CONSTANT;
                names.value[id] = number;
            }
        }

        /** .if to .endr: what chooses or keeps lines. */
        private void control(int operation) {
            if (operation == ENDM || operation == ENDR) {
                scan.meet(MISPLACED);
                return;
            }
            if (operation == IFSAME) {
                ifSame(scan.behind());
                return;
            }
            scan.pass();
            int number = 0;
            if (operation == IF) {
                number = scan.whole(Integer.MIN_VALUE, Integer.MAX_VALUE);
            } else if (operation == REPT) {
                number = scan.whole(0, 100);
            }
            scan.close();
            if (scan.worst != 0) {
                return;
            }
            if (operation == IF) {
                scan.meet(lines.openIf(number != 0));
            } else if (operation == ELSE) {
                scan.meet(lines.turnIf());
            } else if (operation == ENDIF) {
                scan.meet(lines.closeIf());
            } else {
                scan.meet(lines.repeat(number));
            }
        }

        private void ifSame(int from) {
            byte[] line = lines.given;
            int end = lines.length;
            int comma = from;
            while (comma < end && line[comma] != ',') {
                comma++;
            }
            if (comma >= end) {
                scan.meet(MALFORMED);
                return;
            }
            int p = behindBlanks(from, comma);
            int pEnd = aheadOfBlanks(p, comma);
            int q = behindBlanks(comma + 1, end);
            int qEnd = aheadOfBlanks(q, end);
            boolean same = pEnd - p == qEnd - q;
            for (int i = 0; same && i < pEnd - p; i++) {
                same = line[p + i] == line[q + i];
            }
            scan.meet(lines.openIf(same));
        }

        private int behindBlanks(int from, int to) {
            int p = from;
            while (p < to && lines.given[p] == ' ') {
                p++;
            }
            return p;
        }

        private int aheadOfBlanks(int from, int to) {
            int q = to;
            while (q > from && lines.given[q - 1] == ' ') {
                q--;
            }
            return q;
        }

        private void macroLine() {
            scan.pass();
            long first = scan.first();
            long second = scan.second();
            scan.expect(Scanner.NAME);
            int parameters = 0;
            if (scan.worst == 0 && scan.kind() != Scanner.END) {
                parameters = parameters();
            }
            scan.close();
            if (scan.worst != 0) {
                return;
            }
            if (lines.macroNamed(first, second) != NONE) {
                scan.meet(TAKEN);
                return;
            }
            scan.meet(lines.define(first, second, parameters));
        }

        private int parameters() {
            int count = 0;
            for (int i = 0; i <= lines.length && scan.worst == 0; i++) {
                boolean isWord = scan.kind() == Scanner.NAME && !hasDot(scan.first()) && !hasDot(scan.second());
                if (!isWord || !lines.parameter(count, scan.first(), scan.second())) {
                    scan.meet(MALFORMED);
                    return count;
                }
                count++;
                scan.pass();
                if (scan.kind() != ',') {
                    return count;
                }
                scan.pass();
            }
            return count;
        }

        private static boolean hasDot(long packed) {
            for (int i = 0; i < 8; i++) {
                if ((packed >>> 8 * i & 255) == '.') {
                    return true;
                }
            }
            return false;
        }

        // The end

        /** Settles all uses of labels, and what was told of labels. */
        private void settle() {
            int kept = 0;
            for (int use = 0; use < unit.useCount; use++) {
                int row = use * Unit.USE_ROW;
                if (unit.uses[row + Unit.TARGET] == NONE) {
                    aimAtName(use);
                }
                int target = unit.uses[row + Unit.TARGET];
                boolean near = unit.uses[row + Unit.SORT] == SORT_BRANCH && target == unit.uses[row + Unit.USE_SECTION];
                if (target == WAITS || near && !setDistance(row)) {
                    faultKind = target == WAITS ? LOST : OUTSIDE;
                    faultLine = unit.uses[row + Unit.USE_LINE];
                    return;
                }
                if (!near) {
                    System.arraycopy(unit.uses, row, unit.uses, kept * Unit.USE_ROW, Unit.USE_ROW);
                    unit.useNames[2 * kept] = unit.useNames[2 * use];
                    unit.useNames[2 * kept + 1] = unit.useNames[2 * use + 1];
                    kept++;
                }
            }
            unit.useCount = kept;
            for (int i = 0; i < unit.labelCount; i++) {
                int id = names.find(unit.labelNames[2 * i], unit.labelNames[2 * i + 1]);
                int mark = id < 0 ? 0 : names.mark[id];
                unit.labels[i * Unit.LABEL_ROW + Unit.IS_GLOBAL] = (mark & TOLD_GLOBAL) == 0 ? 0 : 1;
                unit.labels[i * Unit.LABEL_ROW + Unit.LABEL_KIND] = (mark & KIND_MASK) >> KIND_SHIFT;
            }
        }

        private void aimAtName(int use) {
            int id = names.find(unit.useNames[2 * use], unit.useNames[2 * use + 1]);
            int label = id < 0 ? NONE : names.owner[id];
            if (label < 0) {
                return;
            }
            int row = use * Unit.USE_ROW;
            unit.uses[row + Unit.TARGET] = unit.labels[label * Unit.LABEL_ROW + Unit.LABEL_SECTION];
            unit.uses[row + Unit.NUMBER] += unit.labels[label * Unit.LABEL_ROW + Unit.LABEL_PLACE];
            unit.useNames[2 * use] = 0;
            unit.useNames[2 * use + 1] = 0;
        }

        /** Writes the distance of a branch inside its section; false if it can't be one. */
        private boolean setDistance(int row) {
            int place = unit.uses[row + Unit.USE_PLACE];
            int bytes = unit.uses[row + Unit.NUMBER] - place - 4;
            if (!Codes.isDistance(bytes)) {
                return false;
            }
            unit.write(unit.uses[row + Unit.USE_SECTION], place, bytes >> 2, 2);
            return true;
        }
    }

    /** What instructions' words say. */
    static final class Codes {
        private final Names names;
        /** The instruction by its OP, by its FUNCTION, and by t if its OP is 1; NONE without one. */
        private final int[] byOp = new int[64];
        private final int[] byFunction = new int[64];
        private final int[] bySecond = new int[32];
        private final StringBuilder text = new StringBuilder();

        Codes(Names names) {
            this.names = names;
            Arrays.fill(byOp, NONE);
            Arrays.fill(byFunction, NONE);
            Arrays.fill(bySecond, NONE);
            for (int i = 0; i < INSTRUCTIONS; i++) {
                int op = BASES[i] >>> 26;
                if (op == 0) {
                    byFunction[BASES[i] & 63] = i;
                } else if (op == 1) {
                    bySecond[BASES[i] >>> T_SHIFT & 31] = i;
                } else {
                    byOp[op] = i;
                }
            }
        }

        /** The instruction that a word is, or NONE. */
        int decode(int word) {
            int op = word >>> 26;
            int found = op == 0 ? byFunction[word & 63] : op == 1 ? bySecond[word >>> T_SHIFT & 31] : byOp[op];
            return found >= 0 && (word & FIXED[FORMS[found]]) == BASES[found] ? found : NONE;
        }

        /** Whether it is a branch or jump. */
        static boolean turns(int operation) {
            return operation == JR || operation == JALR || operation >= BLTZ && operation <= BGTZ;
        }

        /** Whether it sets $ra to come back. */
        static boolean linksBack(int operation) {
            return operation == JAL || operation == JALR || operation == BLTZAL || operation == BGEZAL;
        }

        static boolean isDistance(int bytes) {
            return (bytes & 3) == 0 && bytes >> 2 >= -32768 && bytes >> 2 <= 32767;
        }

        /** The register that an instruction sets by its words, 0 without one. */
        static int setBy(int operation, int word) {
            switch (FORMS[operation]) {
                case DST:
                case SHIFT:
                case DTS:
                case D:
                    return word >>> D_SHIFT & 31;
                case TSH:
                case TSN:
                case UPPER:
                    return word >>> T_SHIFT & 31;
                case MEMORY:
                    return operation < SB ? word >>> T_SHIFT & 31 : 0;
                default:
                    return 0;
            }
        }

        /** Whether an instruction reads a register by its words. */
        static boolean reads(int operation, int word, int register) {
            boolean s = (word >>> S_SHIFT & 31) == register;
            boolean t = (word >>> T_SHIFT & 31) == register;
            switch (FORMS[operation]) {
                case DST:
                case DTS:
                case ST:
                case BRANCH_ST:
                    return s || t;
                case SHIFT:
                    return t;
                case S:
                case TSH:
                case TSN:
                case BRANCH_S:
                    return s;
                case MEMORY:
                    return s || operation >= SB && t;
                default:
                    return false;
            }
        }

        /** Sign k of a word as text, NONE behind it. */
        int signOfWord(int word, int k) {
            text.setLength(0);
            int operation = decode(word);
            if (operation == NONE) {
                text.append(".word ");
                text.append(word);
            } else {
                nameOf(operation);
                operands(word, operation);
            }
            text.append('\n');
            return k >= 0 && k < text.length() ? text.charAt(k) : NONE;
        }

        private void operands(int word, int operation) {
            int number = (short) word;
            switch (FORMS[operation]) {
                case DST:
                    three(word, D_SHIFT, S_SHIFT, T_SHIFT);
                    break;
                case SHIFT:
                    two(word, D_SHIFT, T_SHIFT);
                    amount(',', word >>> N_SHIFT & 31);
                    break;
                case DTS:
                    three(word, D_SHIFT, T_SHIFT, S_SHIFT);
                    break;
                case ST:
                    two(word, S_SHIFT, T_SHIFT);
                    break;
                case D:
                    one(' ', word, D_SHIFT);
                    break;
                case S:
                    one(' ', word, S_SHIFT);
                    break;
                case BREAKS:
                    amount(' ', word >>> T_SHIFT & 1023);
                    break;
                case TSH:
                case TSN:
                    two(word, T_SHIFT, S_SHIFT);
                    amount(',', FORMS[operation] == TSH ? number : number & 65535);
                    break;
                case UPPER:
                    one(' ', word, T_SHIFT);
                    amount(',', number & 65535);
                    break;
                case MEMORY:
                    one(' ', word, T_SHIFT);
                    amount(',', number);
                    one('(', word, S_SHIFT);
                    text.append(')');
                    break;
                case BRANCH_ST:
                    two(word, S_SHIFT, T_SHIFT);
                    amount(',', number);
                    break;
                case BRANCH_S:
                    one(' ', word, S_SHIFT);
                    amount(',', number);
                    break;
                case JUMPS:
                    amount(' ', word & 0x3FFFFFF);
                    break;
                default:
                    break;
            }
        }

        private void three(int word, int first, int second, int third) {
            two(word, first, second);
            one(',', word, third);
        }

        private void two(int word, int first, int second) {
            one(' ', word, first);
            one(',', word, second);
        }

        private void one(char ahead, int word, int shift) {
            text.append(ahead);
            nameOf(FIRST_REGISTER + (word >>> shift & 31));
        }

        private void amount(char ahead, int number) {
            text.append(ahead);
            text.append(number);
        }

        private void nameOf(int id) {
            for (int k = 0; k < 8 && (names.first[id] >>> 8 * k & 255) != 0; k++) {
                text.append((char) (names.first[id] >>> 8 * k & 255));
            }
        }
    }

    /** Lays the reached sections of all units into the machine's memory. */
    static final class Linker {
        private static final int LABEL_BITS = 10;

        int faultKind;
        int faultLine;
        int faultUnit;
        int imageEnd;
        private final Names names;
        private final Machine machine;
        private Unit[] units;
        private int count;
        private int textEnd;
        /** The sections that are reached: unit by 64, and section. */
        private final int[] reached = new int[(MOST_UNITS + 1) * MOST_SECTIONS];
        private int reachedCount;
        /** Where the relocation that was looked at last points to. */
        private int aimUnit;
        private int aimSection;
        private int aimPlace;

        Linker(Names names, Machine machine) {
            this.names = names;
            this.machine = machine;
        }

        /** Whether the units link; then the machine is at its beginning. */
        boolean join(Unit[] all, int unitCount, int base, int memory) {
            units = all;
            count = unitCount;
            faultKind = 0;
            faultLine = NONE;
            faultUnit = NONE;
            gather();
            if (faultKind == 0) {
                reach();
                findMissing();
            }
            if (faultKind == 0) {
                askWants();
            }
            if (faultKind == 0) {
                lay(base);
                if (imageEnd - base > memory - 256) {
                    blame(4, NONE, NONE);
                }
            }
            if (faultKind == 0) {
                checkAims();
            }
            if (faultKind == 0) {
                fillMachine(base, memory);
            }
            return faultKind == 0;
        }

        private boolean has(int unit) {
            return (unit < count || unit == RUNTIME) && units[unit] != null;
        }

        private void blame(int kind, int line, int unit) {
            faultKind = kind;
            faultLine = line;
            faultUnit = unit;
        }

        /** Notes all global labels; two of one name are fault 1. */
        private void gather() {
            names.clear();
            for (int u = 0; u <= RUNTIME; u++) {
                for (int i = 0; has(u) && i < units[u].labelCount; i++) {
                    int row = i * Unit.LABEL_ROW;
                    if (units[u].labels[row + Unit.IS_GLOBAL] == 0) {
                        continue;
                    }
                    int id = names.numberOf(units[u].labelNames[2 * i], units[u].labelNames[2 * i + 1]);
                    if (id < 0 || names.owner[id] >= 0) {
                        blame(1, units[u].labels[row + Unit.LABEL_LINE], u);
                        return;
                    }
                    names.owner[id] = u << LABEL_BITS | i;
                }
            }
        }

        /** Looks where a relocation points to; false if it is a name that no unit gives. */
        private boolean aim(int unit, int use) {
            Unit of = units[unit];
            int row = use * Unit.USE_ROW;
            aimUnit = unit;
            aimSection = of.uses[row + Unit.TARGET];
            aimPlace = of.uses[row + Unit.NUMBER];
            if (aimSection >= 0) {
                return true;
            }
            int id = names.find(of.useNames[2 * use], of.useNames[2 * use + 1]);
            int owner = id < 0 ? NONE : names.owner[id];
            if (owner < 0) {
                return false;
            }
            aimUnit = owner >> LABEL_BITS;
            int label = (owner & (1 << LABEL_BITS) - 1) * Unit.LABEL_ROW;
            aimSection = units[aimUnit].labels[label + Unit.LABEL_SECTION];
            aimPlace += units[aimUnit].labels[label + Unit.LABEL_PLACE];
            return true;
        }

        private int aimAddress() {
            return units[aimUnit].sections[aimSection * Unit.SECTION_ROW + Unit.ADDRESS] + aimPlace;
        }

        private void reach() {
            for (int u = 0; u <= RUNTIME; u++) {
                for (int i = 0; has(u) && i < units[u].sectionCount; i++) {
                    units[u].sections[i * Unit.SECTION_ROW + Unit.REACHED] = 0;
                    units[u].sections[i * Unit.SECTION_ROW + Unit.ADDRESS] = NONE;
                }
            }
            reachedCount = 0;
            // Section 1 of the runtime is _start.
            mark(RUNTIME, 1);
            for (int i = 0; i < reachedCount; i++) {
                int u = reached[i] / MOST_SECTIONS;
                for (int use = 0; use < units[u].useCount; use++) {
                    boolean here = units[u].uses[use * Unit.USE_ROW + Unit.USE_SECTION] == reached[i] % MOST_SECTIONS;
                    if (here && aim(u, use)) {
                        mark(aimUnit, aimSection);
                    }
                }
            }
        }

        private void mark(int unit, int section) {
            int row = section * Unit.SECTION_ROW + Unit.REACHED;
            if (units[unit].sections[row] == 0 && reachedCount < reached.length) {
                units[unit].sections[row] = 1;
                reached[reachedCount] = unit * MOST_SECTIONS + section;
                reachedCount++;
            }
        }

        /** Whether a relocation stands in a reached section. */
        private boolean counts(int unit, int use) {
            int section = units[unit].uses[use * Unit.USE_ROW + Unit.USE_SECTION];
            return units[unit].sections[section * Unit.SECTION_ROW + Unit.REACHED] != 0;
        }

        private void findMissing() {
            for (int u = 0; u <= RUNTIME; u++) {
                for (int use = 0; has(u) && use < units[u].useCount; use++) {
                    if (counts(u, use) && !aim(u, use)) {
                        blame(2, units[u].uses[use * Unit.USE_ROW + Unit.USE_LINE], u);
                        return;
                    }
                }
            }
        }

        private void askWants() {
            for (int u = 0; u <= RUNTIME; u++) {
                for (int i = 0; has(u) && i < units[u].wantCount; i++) {
                    int id = names.find(units[u].wantNames[2 * i], units[u].wantNames[2 * i + 1]);
                    int owner = id < 0 ? NONE : names.owner[id];
                    if (owner < 0) {
                        continue;
                    }
                    int label = (owner & (1 << LABEL_BITS) - 1) * Unit.LABEL_ROW;
                    int kind = units[owner >> LABEL_BITS].labels[label + Unit.LABEL_KIND];
                    if (kind != 0 && kind != units[u].wants[i * Unit.WANT_ROW + Unit.WANT_KIND]) {
                        blame(3, units[u].wants[i * Unit.WANT_ROW + Unit.WANT_LINE], u);
                        return;
                    }
                }
            }
        }

        private void lay(int base) {
            textEnd = layAll(base, 0);
            imageEnd = layAll(textEnd, 1) + 3 & ~3;
        }

        /** Lays the reached sections of text (0) or data (1) from an address on: where they end. */
        private int layAll(int from, int data) {
            int end = from;
            for (int u = 0; u <= RUNTIME; u++) {
                for (int i = 0; has(u) && i < units[u].sectionCount; i++) {
                    int row = i * Unit.SECTION_ROW;
                    int[] sections = units[u].sections;
                    if (sections[row + Unit.REACHED] != 0 && sections[row + Unit.IS_DATA] == data) {
                        int address = end + sections[row + Unit.ALIGNMENT] - 1 & -sections[row + Unit.ALIGNMENT];
                        sections[row + Unit.ADDRESS] = address;
                        end = address + sections[row + Unit.SIZE];
                    }
                }
            }
            return end;
        }

        private int addressOf(int unit, int use) {
            int row = use * Unit.USE_ROW;
            int section = units[unit].uses[row + Unit.USE_SECTION];
            return units[unit].sections[section * Unit.SECTION_ROW + Unit.ADDRESS] + units[unit].uses[row + Unit.USE_PLACE];
        }

        private void checkAims() {
            for (int u = 0; u <= RUNTIME; u++) {
                for (int use = 0; has(u) && use < units[u].useCount; use++) {
                    if (!counts(u, use) || !aim(u, use)) {
                        continue;
                    }
                    int sort = units[u].uses[use * Unit.USE_ROW + Unit.SORT];
                    boolean farBranch = sort == SORT_BRANCH && !Codes.isDistance(aimAddress() - addressOf(u, use) - 4);
                    if (farBranch || sort == SORT_JUMP && (aimAddress() & 3) != 0) {
                        blame(5, units[u].uses[use * Unit.USE_ROW + Unit.USE_LINE], u);
                        return;
                    }
                }
            }
        }

        private void fillMachine(int base, int memory) {
            int start = units[RUNTIME].sections[Unit.SECTION_ROW + Unit.ADDRESS];
            machine.begin(base, memory, textEnd, imageEnd, start);
            for (int u = 0; u <= RUNTIME; u++) {
                for (int i = 0; has(u) && i < units[u].sectionCount; i++) {
                    int row = i * Unit.SECTION_ROW;
                    int address = units[u].sections[row + Unit.ADDRESS];
                    int from = units[u].sections[row + Unit.START];
                    int size = units[u].sections[row + Unit.REACHED] == 0 ? 0 : units[u].sections[row + Unit.SIZE];
                    for (int k = 0; k < size; k++) {
                        machine.setByte(address + k, units[u].bytes[from + k]);
                    }
                }
                for (int use = 0; has(u) && use < units[u].useCount; use++) {
                    if (counts(u, use) && aim(u, use)) {
                        mend(addressOf(u, use), units[u].uses[use * Unit.USE_ROW + Unit.SORT], aimAddress());
                    }
                }
            }
        }

        private void mend(int address, int sort, int target) {
            int word = machine.wordAt(address);
            if (sort == SORT_WORD) {
                word = target;
            } else if (sort == SORT_HI) {
                word = word & ~65535 | target + 32768 >> 16 & 65535;
            } else if (sort == SORT_LO) {
                word = word & ~65535 | target & 65535;
            } else if (sort == SORT_JUMP) {
                word = word & ~0x3FFFFFF | target >> 2 & 0x3FFFFFF;
            } else {
                word = word & ~65535 | target - address - 4 >> 2 & 65535;
            }
            machine.setWord(address, word);
        }
    }

    /** Runs an image. */
    static final class Machine {
        int outcome;
        int number;
        int pc;
        int next;
        int hi;
        int lo;
        int steps;
        int imageEnd;
        int textEnd;
        final int[] registers = new int[32];
        final int[] outputs = new int[MOST_KEPT];
        int outputCount;
        int taken;
        private final Codes codes;
        private final int[] memory = new int[MOST_MEMORY / 4];
        private int base;
        private int size;
        private int[] inputs;
        private int inputCount;
        /** What NEXT PC becomes behind the step at hand. */
        private int after;

        Machine(Codes codes) {
            this.codes = codes;
        }

        void begin(int from, int bytes, int behindText, int behindImage, int start) {
            base = from;
            size = bytes;
            textEnd = behindText;
            imageEnd = behindImage;
            pc = start;
            next = start + 4;
            hi = 0;
            lo = 0;
            steps = 0;
            outcome = 0;
            number = 0;
            outputCount = 0;
            taken = 0;
            Arrays.fill(memory, 0, size / 4, 0);
            Arrays.fill(registers, 0);
            registers[SP] = base + size;
            registers[GP] = imageEnd;
        }

        boolean holds(int address) {
            return address >= base && address - base < size;
        }

        /** The word round an address; 0 where there is no memory. */
        int wordAt(int address) {
            return holds(address) ? memory[address - base >> 2] : 0;
        }

        void setWord(int address, int word) {
            if (holds(address)) {
                memory[address - base >> 2] = word;
            }
        }

        void setByte(int address, int value) {
            setPart(address, value, 255);
        }

        /** Sets a byte or half of the word round an address. */
        private void setPart(int address, int value, int mask) {
            int shift = 8 * (address & 3);
            setWord(address, wordAt(address) & ~(mask << shift) | (value & mask) << shift);
        }

        /** Does so many steps or until it stops: how many. */
        int go(int most, int[] values, int valueCount) {
            inputs = values;
            inputCount = valueCount;
            int done = 0;
            while (done < most && step()) {
                done++;
            }
            steps += done;
            return done;
        }

        private boolean stop(int how, int with) {
            outcome = how;
            number = with;
            return false;
        }

        private boolean step() {
            if ((pc & 3) != 0 || !holds(pc)) {
                return stop(3, pc);
            }
            if (pc >= textEnd) {
                return stop(4, pc);
            }
            int word = wordAt(pc);
            int operation = codes.decode(word);
            if (operation == NONE) {
                return stop(5, word);
            }
            after = next + 4;
            if (!perform(operation, word)) {
                return false;
            }
            pc = next;
            next = after;
            return true;
        }

        private boolean perform(int operation, int word) {
            int s = registers[word >>> S_SHIFT & 31];
            int t = registers[word >>> T_SHIFT & 31];
            switch (FORMS[operation]) {
                case DST:
                case DTS:
                    set(word >>> D_SHIFT & 31, combined(operation, s, t));
                    return true;
                case SHIFT:
                    set(word >>> D_SHIFT & 31, shifted(operation, t, word >>> N_SHIFT & 31));
                    return true;
                case ST:
                    multiply(operation, s, t);
                    return true;
                case D:
                    set(word >>> D_SHIFT & 31, operation == MFHI ? hi : lo);
                    return true;
                case S:
                    single(operation, s);
                    return true;
                case BARE:
                    return syscall();
                case BREAKS:
                    return stop(2, word >>> T_SHIFT & 1023);
                case TSH:
                case TSN:
                case UPPER:
                    set(word >>> T_SHIFT & 31, immediate(operation, s, word));
                    return true;
                case MEMORY:
                    return access(operation, s + (short) word, word >>> T_SHIFT & 31);
                case JUMPS:
                    if (operation == JAL) {
                        set(RA, pc + 8);
                    }
                    after = pc + 4 & 0xF0000000 | (word & 0x3FFFFFF) << 2;
                    return true;
                default:
                    branch(operation, s, t, (short) word);
                    return true;
            }
        }

        private void set(int register, int value) {
            if (register != 0) {
                registers[register] = value;
            }
        }

        private static int shifted(int operation, int value, int count) {
            if (operation == SLL || operation == SLLV) {
                return value << count;
            }
            return operation == SRL || operation == SRLV ? value >>> count : value >> count;
        }

        private static int combined(int operation, int s, int t) {
            switch (operation) {
                case ADDU:
                    return s + t;
                case SUBU:
                    return s - t;
                case AND:
                    return s & t;
                case OR:
                    return s | t;
                case XOR:
                    return s ^ t;
                case NOR:
                    return ~(s | t);
                case SLT:
                    return s < t ? 1 : 0;
                case SLTU:
                    return s + Integer.MIN_VALUE < t + Integer.MIN_VALUE ? 1 : 0;
                default:
                    return shifted(operation, t, s & 31);
            }
        }

        private static int immediate(int operation, int s, int word) {
            int half = (short) word;
            switch (operation) {
                case ADDIU:
                    return s + half;
                case SLTI:
                    return s < half ? 1 : 0;
                case SLTIU:
                    return s + Integer.MIN_VALUE < half + Integer.MIN_VALUE ? 1 : 0;
                case ANDI:
                    return s & word & 65535;
                case ORI:
                    return s | word & 65535;
                case XORI:
                    return s ^ word & 65535;
                default:
                    return word << 16;
            }
        }

        private void multiply(int operation, int s, int t) {
            boolean signed = operation == MULT || operation == DIV;
            long a = signed ? s : s & 0xFFFFFFFFL;
            long b = signed ? t : t & 0xFFFFFFFFL;
            if (operation == MULT || operation == MULTU) {
                long product = a * b;
                hi = (int) (product >>> 32);
                lo = (int) product;
            } else if (b != 0) {
                lo = (int) (a / b);
                hi = (int) (a % b);
            }
        }

        private void single(int operation, int s) {
            if (operation == MTHI) {
                hi = s;
            } else if (operation == MTLO) {
                lo = s;
            } else {
                after = s;
                if (operation == JALR) {
                    set(RA, pc + 8);
                }
            }
        }

        private boolean syscall() {
            int wish = registers[V0];
            if (wish == 1) {
                if (outputCount < MOST_KEPT) {
                    outputs[outputCount] = registers[A0];
                }
                outputCount++;
                return true;
            }
            if (wish == 5) {
                boolean some = taken < inputCount && taken < inputs.length;
                registers[V0] = some ? inputs[taken] : 0;
                taken += some ? 1 : 0;
                return true;
            }
            return wish == 10 ? stop(1, registers[A0]) : stop(5, wish);
        }

        private boolean access(int operation, int address, int register) {
            int width = widthOf(operation);
            if ((address & width - 1) != 0 || !holds(address)) {
                return stop(3, address);
            }
            if (address < textEnd) {
                return stop(4, address);
            }
            int shift = 8 * (address & 3);
            int word = wordAt(address) >>> shift;
            int value = registers[register];
            switch (operation) {
                case LB:
                    set(register, (byte) word);
                    break;
                case LH:
                    set(register, (short) word);
                    break;
                case LW:
                    set(register, word);
                    break;
                case LBU:
                    set(register, word & 255);
                    break;
                case LHU:
                    set(register, word & 65535);
                    break;
                case SB:
                    setPart(address, value, 255);
                    break;
                case SH:
                    setPart(address, value, 65535);
                    break;
                default:
                    setWord(address, value);
                    break;
            }
            return true;
        }

        private static int widthOf(int operation) {
            if (operation == LB || operation == LBU || operation == SB) {
                return 1;
            }
            return operation == LH || operation == LHU || operation == SH ? 2 : 4;
        }

        private void branch(int operation, int s, int t, int distance) {
            boolean holds;
            switch (operation) {
                case BEQ:
                    holds = s == t;
                    break;
                case BNE:
                    holds = s != t;
                    break;
                case BLEZ:
                    holds = s <= 0;
                    break;
                case BGTZ:
                    holds = s > 0;
                    break;
                case BLTZ:
                case BLTZAL:
                    holds = s < 0;
                    break;
                default:
                    holds = s >= 0;
                    break;
            }
            if (operation == BLTZAL || operation == BGEZAL) {
                set(RA, pc + 8);
            }
            if (holds) {
                after = pc + 4 + 4 * distance;
            }
        }
    }

    /** Works units in the language out directly. */
    static final class Meaning {
        private static final int UNDER_WAY = -1;
        private static final int MOST_CALLS = 40;
        private static final int TEMPORARIES = 8;
        private static final int MOST_OWN = 4 + 400;
        private static final int CALLER_UNIT = TEMPORARIES + MOST_OWN;
        private static final int CALLER_ITEM = CALLER_UNIT + 1;
        private static final int CALLER_DEPTH = CALLER_UNIT + 2;
        private static final int FRAME = CALLER_UNIT + 3;
        private static final int NAME_ROW = 2 * MOST_NAMES;
        /** Far above what so many steps can need: an item has at least a sign of its text. */
        private static final int MOST_ITEMS_DONE = 200000000;

        int answer;
        int result;
        int steps;
        int saidCount;
        int taken;
        int deepest;
        final int[] saidValues = new int[MOST_KEPT];
        private final Names names;
        private Unit[] units;
        /** By unit and name: the declaration that it means, unit by 512 and number. */
        private final int[] meanings = new int[MOST_UNITS * NAME_ROW];
        /** By unit and declared name: where its words begin. */
        private final int[] addresses = new int[MOST_UNITS * MOST_NAMES];
        private final int[] globals = new int[MOST_UNITS * MOST_BYTES / 4];
        private int globalCount;
        private int main;
        /** Of each call its temporaries, its parameters and locals, and where it comes from. */
        private final int[] frames = new int[MOST_CALLS * FRAME];
        private int calls;
        private int unit;
        private int at;
        private int mostSteps;
        private int[] inputs;
        private int inputCount;

        Meaning(Names names) {
            this.names = names;
        }

        /** Finds what each name means; false if the units have no meaning together. */
        boolean resolve(Unit[] all, int count) {
            units = all;
            names.clear();
            globalCount = 0;
            for (int u = 0; u < count; u++) {
                if (!all[u].inLanguage || all[u].draft == null || !gather(u, all[u].draft)) {
                    return false;
                }
            }
            for (int u = 0; u < count; u++) {
                if (!resolveOuter(u, all[u].draft)) {
                    return false;
                }
            }
            int id = names.find(Assembler.named("main"), 0);
            main = id < 0 ? NONE : names.owner[id];
            return main >= 0 && kindOf(main) == 3;
        }

        private int kindOf(int declaration) {
            Draft of = units[declaration / Draft.MOST_DECLARED].draft;
            return of.declared[declaration % Draft.MOST_DECLARED * Draft.ROW + Draft.KIND_TOLD];
        }

        private boolean gather(int u, Draft draft) {
            for (int i = 0; i < draft.declaredCount && i < MOST_NAMES; i++) {
                int id = names.numberOf(draft.declaredNames[i], 0);
                if (id < 0 || names.owner[id] >= 0) {
                    return false;
                }
                names.owner[id] = u * Draft.MOST_DECLARED + i;
                meanings[u * NAME_ROW + i] = names.owner[id];
                addresses[u * MOST_NAMES + i] = globalCount;
                int kind = draft.declared[i * Draft.ROW + Draft.KIND_TOLD];
                globalCount += kind == 1 ? 1 : kind == 2 ? draft.declared[i * Draft.ROW + Draft.WORDS] : 0;
            }
            return globalCount <= globals.length;
        }

        private boolean resolveOuter(int u, Draft draft) {
            for (int i = 0; i < draft.outerCount; i++) {
                int id = names.find(draft.outerNames[i], 0);
                int owner = id < 0 ? NONE : names.owner[id];
                if (owner < 0 || kindOf(owner) != draft.outerKinds[i]) {
                    return false;
                }
                meanings[u * NAME_ROW + MOST_NAMES + i] = owner;
            }
            return true;
        }

        /** Works out what was resolved, in so many steps. */
        void work(int most, int[] values, int valueCount) {
            mostSteps = most;
            inputs = values;
            inputCount = valueCount;
            answer = UNDER_WAY;
            result = 0;
            steps = 0;
            saidCount = 0;
            taken = 0;
            deepest = 0;
            calls = 0;
            Arrays.fill(globals, 0, globalCount, 0);
            enter(main, 0);
            for (int i = 0; i < MOST_ITEMS_DONE && answer == UNDER_WAY; i++) {
                Draft draft = units[unit].draft;
                if (at < 0 || at >= draft.itemCount) {
                    finish(1, 0);
                    return;
                }
                at++;
                perform(draft.items[2 * at - 2], draft.items[2 * at - 1]);
            }
        }

        private void finish(int how, int with) {
            answer = how;
            result = with;
        }

        /** Begins a call; its arguments are the caller's temporaries from a depth on. */
        private void enter(int declaration, int depth) {
            if (calls >= MOST_CALLS) {
                finish(2, 3);
                return;
            }
            Draft draft = units[declaration / Draft.MOST_DECLARED].draft;
            int row = declaration % Draft.MOST_DECLARED * Draft.ROW;
            int parameters = draft.declared[row + Draft.KIND_TOLD] - 3;
            int base = calls * FRAME;
            int words = Math.min(parameters + draft.declared[row + Draft.LOCALS], MOST_OWN);
            Arrays.fill(frames, base + TEMPORARIES, base + TEMPORARIES + words, 0);
            for (int j = 0; j < parameters && calls > 0; j++) {
                frames[base + TEMPORARIES + j] = frames[base - FRAME + depth + j];
            }
            frames[base + CALLER_UNIT] = unit;
            frames[base + CALLER_ITEM] = at;
            frames[base + CALLER_DEPTH] = depth;
            calls++;
            deepest = Math.max(deepest, calls);
            unit = declaration / Draft.MOST_DECLARED;
            at = draft.declared[row + Draft.ENTRY];
        }

        private void leave(int value) {
            calls--;
            if (calls == 0) {
                finish(1, value);
                return;
            }
            int base = calls * FRAME;
            unit = frames[base + CALLER_UNIT];
            at = frames[base + CALLER_ITEM];
            frames[base - FRAME + frames[base + CALLER_DEPTH]] = value;
        }

        private void perform(int packed, int operand) {
            int item = packed & (1 << ITEM_BITS) - 1;
            int base = (calls - 1) * FRAME;
            int depth = packed >> ITEM_BITS;
            int own = base + depth;
            if (item >= ITEM_ADD && item <= ITEM_MOST) {
                frames[own] = combine(item, frames[own], frames[own + 1]);
                return;
            }
            switch (item) {
                case ITEM_CLOSE:
                    leave(0);
                    break;
                case ITEM_STEP:
                    step();
                    break;
                case ITEM_NUMBER:
                    frames[own] = operand;
                    break;
                case ITEM_IN:
                    frames[own] = nextInput();
                    break;
                case ITEM_CALL:
                case ITEM_SEND:
                    enter(meanings[unit * NAME_ROW - 1 - operand], depth);
                    break;
                case ITEM_MINUS:
                    frames[own] = -frames[own];
                    break;
                case ITEM_NOT:
                    frames[own] = frames[own] == 0 ? 1 : 0;
                    break;
                case ITEM_TURN:
                    frames[own] = ~frames[own];
                    break;
                case ITEM_UNLESS:
                    at = frames[base] == 0 ? operand : at;
                    break;
                case ITEM_JUMP:
                    at = operand;
                    break;
                case ITEM_RETURN:
                    leave(frames[base]);
                    break;
                case ITEM_OUT:
                    say(frames[base]);
                    break;
                default:
                    useName(item, own, base + TEMPORARIES + operand, operand);
                    break;
            }
        }

        private void step() {
            if (steps >= mostSteps) {
                finish(0, 0);
            } else {
                steps++;
            }
        }

        private int nextInput() {
            if (taken >= inputCount || taken >= inputs.length) {
                return 0;
            }
            taken++;
            return inputs[taken - 1];
        }

        private void say(int value) {
            if (saidCount < MOST_KEPT) {
                saidValues[saidCount] = value;
            }
            saidCount++;
        }

        /** Items of variables and arrays: an operand below 0 is a name's, others are places in the frame. */
        private void useName(int item, int own, int local, int operand) {
            int[] words = operand >= 0 ? frames : globals;
            int place = operand >= 0 ? local : addressOf(-1 - operand);
            switch (item) {
                case ITEM_GET:
                    frames[own] = words[place];
                    break;
                case ITEM_SET:
                    words[place] = frames[own];
                    break;
                case ITEM_CHECK:
                    int size = operand >= 0 ? operand : sizeOf(-1 - operand);
                    if (frames[own] < 0 || frames[own] >= size) {
                        finish(2, 2);
                    }
                    break;
                case ITEM_FETCH:
                    frames[own] = words[place + frames[own]];
                    break;
                case ITEM_STORE:
                    words[place + frames[own]] = frames[own + 1];
                    break;
                default:
                    break;
            }
        }

        private int addressOf(int name) {
            int declaration = meanings[unit * NAME_ROW + name];
            return addresses[declaration / Draft.MOST_DECLARED * MOST_NAMES + declaration % Draft.MOST_DECLARED];
        }

        private int sizeOf(int name) {
            int declaration = meanings[unit * NAME_ROW + name];
            Draft of = units[declaration / Draft.MOST_DECLARED].draft;
            return of.declared[declaration % Draft.MOST_DECLARED * Draft.ROW + Draft.WORDS];
        }

        private int combine(int item, int a, int b) {
            switch (item) {
                case ITEM_ADD:
                    return a + b;
                case ITEM_SUB:
                    return a - b;
                case ITEM_OR:
                    return a | b;
                case ITEM_XOR:
                    return a ^ b;
                case ITEM_MUL:
                    return a * b;
                case ITEM_DIV:
                case ITEM_REM:
                    if (b == 0) {
                        finish(2, 1);
                        return 0;
                    }
                    return item == ITEM_DIV ? a / b : a % b;
                case ITEM_AND:
                    return a & b;
                case ITEM_LEFT:
                    return a << (b & 31);
                case ITEM_RIGHT:
                    return a >> (b & 31);
                case ITEM_SAME:
                    return a == b ? 1 : 0;
                case ITEM_UNLIKE:
                    return a != b ? 1 : 0;
                case ITEM_LESS:
                    return a < b ? 1 : 0;
                default:
                    return a <= b ? 1 : 0;
            }
        }
    }
}
