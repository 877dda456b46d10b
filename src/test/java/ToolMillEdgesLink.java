/** The edges that section 6 of the document names, and those of link(): faults and their order, addresses, what is mended. */
public final class ToolMillEdgesLink {
    private static final String MAIN = ".globl main\nmain: ";

    private ToolMillEdgesLink() {
    }

    /** A mill with units in assembly; those that begin with proc or var are in the language. */
    private static ToolMill mill(String... texts) {
        ToolMill mill = new ToolMill();
        for (int i = 0; i < texts.length; i++) {
            String text = texts[i];
            boolean language = text.startsWith("proc ") || text.startsWith("var ");
            Due.is("unit of " + Due.shown(text), () -> language ? Due.source(mill, text) : Due.assemble(mill, text), i);
        }
        return mill;
    }

    private static void fault(ToolMill mill, int base, int memory, int kind, int line, int unit) {
        Due.is("link() with fault " + kind, () -> mill.link(base, memory), -1);
        Due.is("its kind " + kind, () -> mill.fault(0), kind);
        Due.is("its line (kind " + kind + ")", () -> mill.fault(1), line);
        Due.is("its unit (kind " + kind + ")", () -> mill.fault(2), unit);
        Due.is("nothing is linked", () -> mill.state(0), Due.ILLEGAL_STATE);
        Due.is("so that a section has no address", () -> mill.section(6, 1, 3), -1);
    }

    private static void linked(ToolMill mill, int base, int memory, int bytes) {
        Due.is("link(" + base + ", " + memory + ")", () -> mill.link(base, memory), bytes);
        Due.is("no fault", () -> mill.fault(0), 0);
        Due.is("no line", () -> mill.fault(1), -1);
        Due.is("no unit", () -> mill.fault(2), -1);
        Due.is("end of the image", () -> mill.state(9), base + bytes);
    }

    private static void twice() {
        fault(mill(MAIN + "jr $ra", MAIN + "jr $ra"), 0, 512, 1, 1, 1);
        fault(mill("\n\n.globl x\nx: y:\n.globl y", "y:\n" + MAIN + "jr $ra\nx:", "y: nop\n.globl y\n\n.globl x\nx:"), 0, 512, 1, 0, 2);
        fault(mill(".globl _start\n_start: nop", MAIN + "jr $ra"), 0, 512, 1, 2, 6);
        fault(mill(".globl _room\n_room: nop\n" + MAIN), 0, 512, 1, 12, 6);
        fault(mill("var a;", "\n.globl a\n.data\na: .word 1"), 0, 512, 1, 3, 1);
        // neither one that is not global, nor one that is only told
        linked(mill("x: nop", "x: nop\n" + MAIN + "jr $ra", ".globl x\nx: nop"), 0, 512, 12 + 20);
        linked(mill(".globl x\nnop", ".globl x\nx: nop\n" + MAIN + "jr $ra"), 0, 512, 12 + 20);
        linked(mill("_start: _div: nop\n" + MAIN + "jr $ra"), 0, 512, 12 + 20);
    }

    private static void missing() {
        fault(mill("nop"), 0, 512, 2, 2, 6);
        fault(mill("main: jr $ra"), 0, 512, 2, 2, 6);
        fault(mill("\n.word y\n" + MAIN + ".word x\n"), 0, 512, 2, 1, 0);
        fault(mill(MAIN + "jal far\n", "\n\n.text q\n.globl far\nfar: jr $ra\n.word nowhere"), 0, 512, 2, 5, 1);
        fault(mill(MAIN + "jal f\njal none", "\n.globl f\nf: jal other"), 0, 512, 2, 2, 0);
        // what is not reached may have any name, also in a unit of which another section is reached
        linked(mill(MAIN + "jr $ra\n.text other\njal nowhere\n.data\n.word none"), 0, 512, 8 + 20);
        // units come in order, the runtime last, relocations as they stand
        fault(mill(".globl f\nf: jal g\njal h\n", "\n.globl main\nmain: jal f\njal k"), 0, 512, 2, 1, 0);
    }

    private static void wants() {
        fault(mill(MAIN + "jr $ra\n.kind main,4"), 0, 512, 3, 13, 6);
        linked(mill(MAIN + "jr $ra\n.kind main,3"), 0, 512, 28);
        linked(mill(MAIN + "jr $ra\n.kind main,0"), 0, 512, 28);
        linked(mill(MAIN + "jr $ra\n.kind main,4\n.kind main,3"), 0, 512, 28);
        linked(mill(MAIN + "jr $ra\n.want x,5\n.want y,1"), 0, 512, 28);
        linked(mill(MAIN + "jr $ra\nx: .kind x,5\n.want x,4"), 0, 512, 28);
        fault(mill(MAIN + "jr $ra\n.globl x\nx: .kind x,5\n.want x,4"), 0, 512, 3, 4, 0);
        fault(mill(MAIN + "jr $ra\n.globl x\nx: .kind x,5\n.want x,5\n.want x,0"), 0, 512, 3, 5, 0);
        fault(mill(MAIN + "jr $ra\n.want x,5\n.want x,6\n.want x,7", ".globl x\nx: .kind x,5"), 0, 512, 3, 3, 0);
        // also of names that nothing reaches
        fault(mill(MAIN + "jr $ra", "\n.want x,1", ".text q\n.globl x\nx: nop\n.kind x,2"), 0, 512, 3, 1, 1);
        fault(mill("proc main(){}proc f(){g(1);}", "proc g(){}"), 0, 512, 3, 29, 0);
        linked(mill("proc main(){}proc f(){g(1);}", "proc g(a){}"), 0, 512, 4 * 9 + 32);
        linked(mill("proc main(){}proc f(){g(1);}"), 0, 512, 4 * 9 + 32);
    }

    private static void tooBig() {
        for (int memory : new int[] {512, 516, 4096, 65536}) {
            // 28 bytes of code, and so many more up to 256 below the memory's end
            int rest = Math.min(memory - 256 - 28, 16000);
            String text = MAIN + "jr $ra" + "\n.space 4000".repeat(rest / 4000) + "\n.space " + rest % 4000;
            if (rest < 16000) {
                linked(mill(text), 0, memory, memory - 256);
                linked(mill(text), 200000000, memory, memory - 256);
                fault(mill(text + "\n.byte 1"), 0, memory, 4, -1, -1);
                fault(mill(text + "\n.byte 1"), 200000000, memory, 4, -1, -1);
            }
        }
        String fill = ".space 4096\n".repeat(3);
        String[] texts = new String[6];
        for (int i = 0; i < 5; i++) {
            texts[i] = ".data\n.globl d" + i + "\nd" + i + ": " + fill + (i < 4 ? ".word d" + (i + 1) : "");
        }
        // 12288 bytes each, four words between them, 12 of main and 20 of _start
        texts[5] = MAIN + "jr $ra\n.word d0\n";
        int all = 5 * 12288 + 4 * 4 + 12 + 20;
        ToolMill mill = mill(texts);
        linked(mill, 0, all + 256, all);
        fault(mill, 0, all + 252, 4, -1, -1);
        linked(mill, 0, 65536, all);
        // an alignment counts, too
        linked(mill(MAIN + "jr $ra\n.word d\n.data\nd: .space 200\n.align 4"), 16, 512, 32 + 208);
        linked(mill(MAIN + "jr $ra\n.word d\n.data\nd: .align 4\n.space 224"), 16, 512, 32 + 224);
        fault(mill(MAIN + "jr $ra\n.word d\n.data\nd: .align 4\n.space 224"), 20, 512, 4, -1, -1);
        // the image ends at the next multiple of 4
        linked(mill(MAIN + "jr $ra\n.word d\n.data\nd: .byte 1"), 0, 512, 36);
        linked(mill(MAIN + "jr $ra\n.word d\n.data\nd: .byte 1,2,3,4"), 0, 512, 36);
        linked(mill(MAIN + "jr $ra\n.word d\n.data\nd: .byte 1,2,3,4,5"), 0, 512, 40);
        linked(mill(MAIN + "jr $ra\n.word d\n.data\nd:"), 0, 512, 32);
    }

    private static void aims() {
        for (int past = 1; past < 4; past++) {
            fault(mill(MAIN + "jr $ra\nj main+" + past), 0, 512, 5, 2, 0);
            fault(mill(MAIN + "jr $ra\njal main-" + past), 0, 512, 5, 2, 0);
            fault(mill(MAIN + "jr $ra\nb x+" + past + "\n.text q\nx: nop"), 0, 512, 5, 2, 0);
        }
        linked(mill(MAIN + "jr $ra\nj main+4000\nj main-4000"), 0, 512, 8 + 16 + 20);
        // a branch at 8 to a section at 16 and more: 131068 bytes from the slot at most
        String far = "jr $ra\nb x+*\n.text q\nx: nop";
        linked(mill(MAIN + far.replace("*", "131064")), 0, 512, 16 + 4 + 20);
        fault(mill(MAIN + far.replace("*", "131068")), 0, 512, 5, 2, 0);
        linked(mill(MAIN + far.replace("+*", "-131076")), 0, 512, 16 + 4 + 20);
        fault(mill(MAIN + far.replace("+*", "-131080")), 0, 512, 5, 2, 0);
        // a label that another unit has at an odd place
        fault(mill(MAIN + "jal odd\n", ".globl odd\n.space 1\nodd:"), 0, 512, 5, 1, 0);
        fault(mill(".globl f\n.space 2\nf:", "\n\n" + MAIN + "b f"), 0, 512, 5, 3, 1);
        // the runtime's own jump
        fault(mill(".globl main\n.space 2\nmain:"), 0, 512, 5, 2, 6);
        // only where it is reached
        linked(mill(MAIN + "jr $ra\n.text q\nj q\n.text r\nj main+2\nq:"), 0, 512, 28);
        // words, %hi and %lo may be odd
        linked(mill(MAIN + "jr $ra\n.word main+1\nla $t0,main+3"), 0, 512, 8 + 4 + 8 + 20);
    }

    /** The first of the kinds, then the first by units. */
    private static void order() {
        String one = "\n.globl x\nx: nop";
        String two = MAIN + "jal none\n";
        String three = "\n.globl y\ny: .kind y,1\n.want y,2";
        String big = MAIN + "jal main+1\n.space 400";
        fault(mill(two, one, one), 0, 512, 1, 2, 2);
        fault(mill(three, two), 0, 512, 2, 1, 1);
        fault(mill(big, three), 0, 512, 3, 3, 1);
        fault(mill(big), 0, 512, 4, -1, -1);
        fault(mill(big), 0, 1024, 5, 1, 0);
        fault(mill(MAIN + "jal f+1\njal g+2", ".globl f\nf: jal main+1\n.globl g\ng:"), 0, 512, 5, 1, 0);
        fault(mill(".globl f\nf: jal main+1\n.globl g\ng:", MAIN + "jal f+1\njal g+2"), 0, 512, 5, 1, 0);
    }

    /** Text by units and as they stand there, then data, each a multiple of its ALIGNMENT. */
    private static void addresses() {
        ToolMill mill = mill(
            ".data a\n.globl a\na: .byte 1\n.text b\n.globl b\n.align 3\nb: jr $ra\n.word a\n.text c\nc: nop",
            ".data d\n.globl d\n.align 4\nd: .half 1\n.text e\n" + MAIN + "jal b\n.byte 1,2\n.data f\n.byte 1,2,3,4\n.text e\n.align 2\n.word d");
        // b is 12 bytes, e 16, _start 20; a is 1, d 2
        linked(mill, 4, 512, 8 - 4 + 12 + 16 + 20 + 4 + 4 + 4);
        int[][] due = {{0, 0, -1}, {0, 1, 56}, {0, 2, 8}, {0, 3, -1}, {1, 0, -1}, {1, 1, 64}, {1, 2, 20}, {1, 3, -1}, {6, 0, -1}, {6, 1, 36}, {6, 2, -1}};
        for (int[] row : due) {
            Due.is("address of section " + row[1] + " of unit " + row[0], () -> mill.section(row[0], row[1], 3), row[2]);
        }
        Due.is("end of text", () -> mill.state(10), 56);
        Due.is("end of the image", () -> mill.state(9), 68);
        Due.is("a's byte", () -> mill.word(56), 1);
        Due.is("ahead of it", () -> mill.word(4), 0);
        Due.is("PC is _start's", () -> mill.state(2), 36);
        Due.is("NEXT PC", () -> mill.state(3), 40);
        Due.is("link() anew at another base", () -> mill.link(400, 512) >= 0 ? mill.section(6, 1, 3) : -1, 428);
        // what reaches a section: a word, %hi, %lo, a jump, a branch, each by itself
        for (String use : new String[] {".word q", "lui $t0,%hi(q)", "addiu $t0,$t0,%lo(q)", "j q", "b q"}) {
            ToolMill reaches = mill(MAIN + use + "\n.text q\nnop\nq: nop\n.text r\nnop");
            Due.is("link() with " + use, () -> reaches.link(0, 512) >= 0 ? reaches.section(0, 1, 3) > 0 ? 1 : 0 : -1, 1);
            Due.is("the other section isn't reached", () -> reaches.section(0, 2, 3), -1);
        }
        // the runtime's _traps, once reached, and then no more
        ToolMill traps = mill("proc main(){}");
        Due.is("link() of a procedure", () -> traps.link(0, 512), 36 + 32);
        Due.is("_traps is reached", () -> traps.section(6, 2, 3), 36 + 20);
        traps.forget();
        Due.is("nothing is linked", () -> traps.section(6, 2, 3), -1);
        Due.is("another unit", () -> Due.assemble(traps, MAIN + "jr $ra"), 0);
        Due.is("link() of it", () -> traps.link(0, 512), 28);
        Due.is("_traps is not reached then", () -> traps.section(6, 2, 3), -1);
        Due.is("_start is", () -> traps.section(6, 1, 3), 8);
        // a label behind 599 others, a name that is an operation, names that are alike in eight signs
        ToolMill many = mill(".macro m\nn\\@:\n.endm\n.rept 6\n.rept 99\nm\n.endr\n.endr\nnop\n" + MAIN + "jr $ra\n.globl sll\nsll: nop\n.globl abcdefghi\nabcdefghi: nop\n.globl abcdefghj\nabcdefghj: nop",
            "nop\n.data\n.globl d\nd: .word main,sll,abcdefghi,abcdefghj", ".text x\n.globl x\nx: .word d");
        Due.is("it links", () -> many.link(0, 512), 24 + 20);
        ToolMill names = mill(MAIN + "jr $ra\n.word d", "nop\n.text n\n.macro m\nn\\@: .byte 1\n.endm\n.rept 6\n.rept 99\nm\n.endr\n.endr\n.globl sll\nsll: .byte 1\n.globl abcdefghi\nabcdefghi: .byte 1\n"
            + ".globl abcdefghj\nabcdefghj: .byte 1\n.kind sll,5\n.kind abcdefghj,6", ".data\n.globl d\nd: .word sll,abcdefghi,abcdefghj\n.want sll,5\n.want abcdefghi,2\n.want abcdefghj,6");
        Due.is("it links", () -> names.link(0, 2048), 12 + 597 + 3 + 20 + 12);
        int data = names.section(2, 1, 3);
        Due.is("sll", () -> names.word(data), 12 + 594);
        Due.is("abcdefghi", () -> names.word(data + 4), 12 + 595);
        Due.is("abcdefghj", () -> names.word(data + 8), 12 + 596);
        fault(mill(".globl sll\nsll: nop", ".globl sll\nsll: nop"), 0, 512, 1, 1, 1);
        fault(mill(MAIN + "jal sll"), 0, 512, 2, 1, 0);
        fault(mill(MAIN + "jr $ra\n.globl sll\nsll: .kind sll,3\n.want sll,2"), 0, 512, 3, 4, 0);
        fault(mill(MAIN + "jr $ra\n.globl abcdefghj\nabcdefghj: .kind abcdefghj,6\n.want abcdefghj,5"), 0, 512, 3, 4, 0);
        fault(mill(MAIN + "jr $ra\n.want abcdefgh,1\n.globl abcdefghj\nabcdefghj: .kind abcdefghj,6\n.want abcdefghj,5"), 0, 512, 3, 5, 0);
        fault(mill(".globl abcdefghi\nabcdefghi: nop", ".globl abcdefghj\nabcdefghj: nop", "\n.globl abcdefghi\nabcdefghi:"), 0, 512, 1, 2, 2);
        // a text's end that is no multiple of 4
        ToolMill bytes = mill(MAIN + "jal z", "nop\n.globl z\n.text z\nz: jr $ra\n.byte 1\n");
        linked(bytes, 0, 512, 8 + 9 + 3 + 20);
        Due.is("address behind an odd end", () -> bytes.section(6, 1, 3), 20);
    }

    /** Six units of 64 sections, all of them reached, one by the other. */
    private static void allSections() {
        String[] texts = new String[6];
        for (int u = 0; u < 6; u++) {
            StringBuilder text = new StringBuilder(".globl u" + u + "\n" + (u == 0 ? MAIN + "jr $ra\n" : "") + "u" + u + ": .word s0\n");
            for (int i = 0; i < 63; i++) {
                String next = i < 62 ? "s" + (i + 1) : u < 5 ? "u" + (u + 1) : "_div";
                text.append(i % 2 == 0 ? ".data s" : ".text s").append(i).append("\ns").append(i).append(": .word ").append(next).append('\n');
            }
            texts[u] = text.toString();
        }
        ToolMill mill = mill(texts);
        linked(mill, 0, 65536, 6 * 64 * 4 + 8 + 20 + 12);
        int text = 0;
        int data = 6 * 32 * 4 + 8 + 20 + 12;
        for (int u = 0; u < 6; u++) {
            for (int i = 0; i < 64; i++) {
                int unit = u;
                int section = i;
                boolean isData = i % 2 == 1;
                Due.is("address of section " + i + " of unit " + u, () -> mill.section(unit, section, 3), isData ? data : text);
                data += isData ? 4 : 0;
                text += isData ? 0 : u == 0 && i == 0 ? 12 : 4;
            }
        }
        Due.is("_start", () -> mill.section(6, 1, 3), 6 * 32 * 4 + 8);
        Due.is("_traps", () -> mill.section(6, 2, 3), 6 * 32 * 4 + 8 + 20);
        Due.is("the last word", () -> mill.word(mill.section(5, 63, 3)), 6 * 32 * 4 + 8 + 20);
    }

    private static void mended(String text, int place, String due) {
        ToolMill mill = mill(MAIN + text);
        int base = 100000;
        Due.is("link() of " + text, () -> mill.link(base, 65536) >= 0 ? 1 : 0, 1);
        Due.same("word of " + text, Due.listing(mill, mill.word(base + place)), due + "\n");
    }

    private static void mending() {
        mended(".word main", 0, ".word 100000");
        mended(".word main-100001", 0, ".word -1");
        mended(".word main+0xffff0000", 0, ".word 34464");
        // 100000 is 1 times 65536 and 34464, which is below 0 as a half
        mended("la $t0,main", 0, "lui $t0,2");
        mended("la $t0,main", 4, "addiu $t0,$t0,-31072");
        mended("la $t0,main-1697", 0, "lui $t0,1");
        mended("la $t0,main-1697", 4, "addiu $t0,$t0,32767");
        mended("la $t0,main-1696", 0, "lui $t0,2");
        mended("la $t0,main-1696", 4, "addiu $t0,$t0,-32768");
        mended("la $t0,main-100001", 0, "lui $t0,0");
        mended("la $t0,main-100001", 4, "addiu $t0,$t0,-1");
        mended("la $t0,main-132769", 0, "lui $t0,65535");
        mended("la $t0,main+0x7ffef960", 0, "lui $t0,32769");
        mended("la $t1,main", 0, "lui $t1,2");
        mended("la $t1,main", 4, "addiu $t1,$t1,-31072");
        mended("la $ra,main-1", 4, "addiu $ra,$ra,-31073");
        mended("sh $t1,main", 4, "sh $t1,-31072($at)");
        mended("lui $ra,%hi(main)", 0, "lui $ra,2");
        mended("beq $s1,$t1,x\n.text q\nx: nop", 0, "beq $s1,$t1,1");
        mended("bgezal $ra,x\n.text q\nx: nop", 0, "bgezal $ra,1");
        mended("bne $ra,$ra,x-8\n.text q\nx: nop", 0, "bne $ra,$ra,-1");
        mended("j main", 0, "j 25000");
        mended("jal main+8", 0, "jal 25002");
        mended("j main-100004", 0, "j 67108863");
        mended("j main+268435456", 0, "j 25000");
        mended("lw $t0,main-4", 4, "lw $t0,-31076($at)");
        mended("b x\n.text q\nnop\nx: b main", 0, "beq $zero,$zero,2");
        mended("b x\n.text q\nnop\nx: b main", 12, "beq $zero,$zero,-4");
        mended("b x\n.text q\nnop\nx: b main", 16, "sll $zero,$zero,0");
        mended("b x\n.text q\n.space 4\nx: b main", 12, "beq $zero,$zero,-4");
        mended("b x+131064\n.text q\nx: nop", 0, "beq $zero,$zero,32767");
        mended("b x-131076\n.text q\nx: nop", 0, "beq $zero,$zero,-32768");
        // the object itself stays
        ToolMill mill = mill(MAIN + ".word main+1");
        mill.link(4, 512);
        Due.is("the word", () -> mill.word(4), 5);
        Due.is("the object's byte", () -> mill.byteOf(0, 0, 0), 0);
        Due.is("another link()", () -> mill.link(8, 512), 24);
        Due.is("the word then", () -> mill.word(8), 9);
    }

    private static void arguments() {
        ToolMill mill = mill(MAIN + "jr $ra");
        linked(mill, 0, 512, 28);
        linked(mill, 4, 516, 28);
        linked(mill, 200000000, 65536, 28);
        linked(mill, 199999996, 65532, 28);
        Due.is("$sp is memory's end", () -> mill.register(29), 199999996 + 65532);
        Due.is("$gp is the image's end", () -> mill.register(28), 199999996 + 28);
        Due.is("last word of the memory", () -> mill.word(199999996 + 65528), 0);
        Due.is("behind it", () -> mill.word(199999996 + 65532), Due.NO_INDEX);
        Due.is("first word", () -> mill.word(199999996), 8 | 31 << 21);
        Due.is("ahead of it", () -> mill.word(199999992), Due.NO_INDEX);
    }

    public static void main(String[] args) {
        twice();
        missing();
        wants();
        tooBig();
        aims();
        order();
        addresses();
        allSections();
        mending();
        arguments();
        Due.finish("ToolMillEdgesLink");
    }
}
