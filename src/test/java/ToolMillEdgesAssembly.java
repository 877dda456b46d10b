/** The edges that section 4 of the document names: tokens, values, instructions, directives, and bounds of numbers. */
public final class ToolMillEdgesAssembly {
    private ToolMillEdgesAssembly() {
    }

    private static void fine(String text) {
        Due.line(text, 0, 0);
    }

    private static void fault(String text, int kind, int line) {
        Due.line(text, kind, line);
    }

    /** The bytes of the first section, as unsigned numbers with blanks between. */
    private static void bytes(String text, String due) {
        ToolMill mill = new ToolMill();
        Due.is("assemble() of " + Due.shown(text), () -> Due.assemble(mill, text), 0);
        StringBuilder got = new StringBuilder();
        for (int k = 0; k < mill.section(0, 0, 1); k++) {
            got.append(k == 0 ? "" : " ").append(mill.byteOf(0, 0, k));
        }
        Due.same("bytes of " + Due.shown(text), got.toString(), due);
    }

    private static int firstWord(String text) {
        ToolMill mill = new ToolMill();
        Due.is("assemble() of " + text, () -> Due.assemble(mill, text), 0);
        int word = 0;
        for (int k = 0; k < 4; k++) {
            word |= mill.byteOf(0, 0, k) << 8 * k;
        }
        return word;
    }

    private static void word(String text, int op, int s, int t, int rest) {
        Due.is("word of " + text, () -> firstWord(text), op << 26 | s << 21 | t << 16 | rest);
    }

    private static void words() {
        fine("");
        fine("\n\n\n");
        fine("abcdefghijklmnop: nop");
        fault("abcdefghijklmnopq: nop", 1, 0);
        fine("_: .: a.b_c9: nop");
        fine(".word abcdefghijklmnop");
        fault(".word abcdefghijklmnopq", 1, 0);
        fault("Nop", 1, 0);
        fault("a-b: nop", 1, 0);
        fault("9a: nop", 1, 0);
        fault("\nnop nop", 1, 1);
        fault("\n\n?", 1, 2);
        fault("nop;nop", 1, 0);
        fine("nop#nop");
        fine("# a: a: $\n  #");
        fine("nop # 1\nnop#");
        fault("x #:\nnop", 1, 0);
        fine("x : y:z: nop");
        fine("   nop   ");
        fault("foo", 1, 0);
        for (String keyword : new String[] {"var", "proc", "if", "else", "while", "return", "out", "in"}) {
            fault(keyword, 1, 0);
            fine(keyword + ": .word " + keyword);
        }
        fault("x: foo", 1, 0);
        fault(":", 1, 0);
        fault("x::", 1, 0);
        fault("x: 5", 1, 0);
        fault(",".repeat(3000), 1, 0);
        fault(":".repeat(3000), 1, 0);
        fault("a:".repeat(1500), 2, 0);
        fine("1:".repeat(1500));
        fault("nop\n" + "(".repeat(2996), 1, 1);
        fine(".byte 1" + ",1".repeat(1496));
        fault(".byte 1" + ",1".repeat(1496) + ",", 1, 0);
        fine(".byte 1" + "+0".repeat(1496));
        fault(".byte 1" + "+0".repeat(1496) + "+", 1, 0);
        fault("$t0: nop", 1, 0);
        fault("5", 1, 0);
        fault(",", 1, 0);
    }

    private static void numbers() {
        bytes(".word 0", "0 0 0 0");
        bytes(".word 4294967295", "255 255 255 255");
        fault(".word 4294967296", 1, 0);
        fault(".word 9999999999", 1, 0);
        bytes(".word 0000000001", "1 0 0 0");
        fault(".word 00000000001", 1, 0);
        bytes(".word 0x0", "0 0 0 0");
        bytes(".word 0xffffffff", "255 255 255 255");
        bytes(".word 0x1a2b3c4d", "77 60 43 26");
        bytes(".word 0x00000009", "9 0 0 0");
        fault(".word 0x000000009", 1, 0);
        fault(".word 0x", 1, 0);
        fault(".word 0xg", 1, 0);
        fault(".word 0xA", 1, 0);
        fault(".word 0X1", 1, 0);
        fault(".word 1x1", 1, 0);
        fault(".word 00x1", 1, 0);
        fault(".word 1a", 1, 0);
        fault(".word 1_", 1, 0);
        fault(".word 1.", 1, 0);
        fault(".word 0x1.", 1, 0);
        fault(".word 0x1_", 1, 0);
        bytes(".word 1+1", "2 0 0 0");
        // the lowest byte first, and ints that wrap
        bytes(".word 4294967295+1", "0 0 0 0");
        bytes(".word 0x7fffffff+1", "0 0 0 128");
        bytes(".word -0x80000000", "0 0 0 128");
        bytes(".word -1", "255 255 255 255");
        bytes(".word -1-1", "254 255 255 255");
        bytes(".word -5+3", "254 255 255 255");
        bytes(".word 10-3+2-1", "8 0 0 0");
        bytes(".word 1 , 2", "1 0 0 0 2 0 0 0");
        bytes(".word - 1", "255 255 255 255");
        fault(".word --1", 1, 0);
        fault(".word 1--1", 1, 0);
        fault(".word 1+-1", 1, 0);
        fault(".word +1", 1, 0);
        fault(".word 1+", 1, 0);
        fault(".word 1 1", 1, 0);
        fault(".word -", 1, 0);
        fault(".word", 1, 0);
        fault(".word ,1", 1, 0);
        fault(".word 1,,1", 1, 0);
        fault(".word (1)", 1, 0);
        fault(".word $t0", 1, 0);
        fault(".word %lo(x)", 1, 0);
    }

    private static void values() {
        fine(".word x");
        fine(".word x+1-2");
        fine(".word 1+x");
        fine(".word -1+x");
        fault(".word -x", 1, 0);
        fault(".word 1-x", 1, 0);
        fault(".word x+x", 1, 0);
        fault(".word x+y", 1, 0);
        fault(".word x+1f\n1:", 1, 0);
        fault("1: .word 1b+1b", 1, 0);
        fault("1: .word 0-1b", 1, 0);
        fine("1: .word 1b-1");
        fine(".word 1f\n1:");
        bytes(".set k,5\n.word k,-k,k-k,k+k+1", "5 0 0 0 251 255 255 255 0 0 0 0 11 0 0 0");
        bytes(".set k,5\n.set k,k+1\n.word k", "6 0 0 0");
        bytes(".set k,0xffffffff\n.byte k", "255");
        bytes(".set k,4294967295\n.set k,k+2\n.byte k", "1");
        fault(".set k,x", 1, 0);
        fault(".set k,1f\n1:", 1, 0);
        fault(".set k", 1, 0);
        fault(".set k 1", 1, 0);
        fault(".set 1,1", 1, 0);
        fault(".set k,1,2", 1, 0);
        fault(".set $t0,1", 1, 0);
        // only used as a label so far: it may become a constant
        Due.uses(".word k\n.set k,5\n.word k", "0 0 0 -1 0 0 k / ");
        fault(".word k\nk: .set k,5", 2, 1);
        fault("k:\n.set k,5", 2, 1);
        fault(".set k,5\nk:", 2, 1);
        fault("k: k:", 2, 0);
        fault("k:\n.data\nk:", 2, 2);
        fine("k: .text k\n.data d\nd:");
        fine("1: 1: 1:\n1:");
        fault("10: nop", 1, 0);
        fault("1b: nop", 1, 0);
        fault("0x1: nop", 1, 0);
        fault("01: nop", 1, 0);
    }

    /** Names that are operations, and names that are alike in their first or last eight signs. */
    private static void namesOfAllSorts() {
        for (String name : new String[] {"sll", "srl", "nop", "ble", ".text", ".endr", "var", "in", "zero"}) {
            fine(name + ": .word " + name);
            fault(name + ": nop\n" + name + ":", 2, 1);
            fault(name + ":\n.set " + name + ",1", 2, 1);
            fault(".set " + name + ",1\n" + name + ":", 2, 1);
            bytes(".set " + name + ",5\n.set " + name + "," + name + "+1\n.byte " + name, "6");
            Due.uses(".word " + name, "0 0 0 -1 0 0 " + name + " / ");
            Due.uses(name + ": .word " + name, "0 0 0 0 0 0  / ");
            ToolMill mill = new ToolMill();
            Due.assemble(mill, name + ": .globl " + name + "\n.kind " + name + ",7");
            Due.is(name + " is global", () -> mill.label(0, 0, 2), 1);
            Due.is("KIND of " + name, () -> mill.label(0, 0, 3), 7);
        }
        String[] alike = {"abcdefgh", "abcdefghi", "abcdefghj", "abcdefghijklmnop", "abcdefghijklmnoq", "bbcdefghijklmnop", "ijklmnop"};
        StringBuilder labels = new StringBuilder();
        StringBuilder sections = new StringBuilder();
        StringBuilder due = new StringBuilder("text 0 0 4; ");
        StringBuilder constants = new StringBuilder();
        for (int i = 0; i < alike.length; i++) {
            labels.append(alike[i]).append(": .byte 1\n");
            sections.append(".data ").append(alike[i]).append("\n.byte 1\n");
            constants.append(".set ").append(alike[i]).append(',').append(i).append('\n');
        }
        for (String name : alike) {
            sections.append(".data ").append(name).append("\n.byte 2\n");
            due.append(name).append(" 1 2 4; ");
        }
        fine(labels.toString());
        sections(sections.toString(), due.toString());
        for (int i = 0; i < alike.length; i++) {
            Due.uses(labels + ".align 2\n.word " + alike[i], "0 8 0 0 " + i + " 8  / ");
            bytes(constants + ".byte " + alike[i], "" + i);
        }
    }

    /** Each register by its word and by its number. */
    private static void registers() {
        String[] names = {"zero", "at", "v0", "v1", "a0", "a1", "a2", "a3", "t0", "t1", "t2", "t3", "t4", "t5", "t6", "t7",
            "s0", "s1", "s2", "s3", "s4", "s5", "s6", "s7", "t8", "t9", "k0", "k1", "gp", "sp", "fp", "ra"};
        for (int r = 0; r < 32; r++) {
            word("mthi $" + names[r], 0, r, 0, 17);
            word("mthi $" + r, 0, r, 0, 17);
        }
        for (String wrong : new String[] {"$32", "$-1", "$00", "$01", "$031", "$", "$ t0", "$t", "$t10", "$s8", "$a4", "$v2", "$k2", "$r0", "$zeros", "$T0", "t0", "0"}) {
            fault("mthi " + wrong, 1, 0);
        }
        fault("mthi $t0x", 1, 0);
        fault("mthi $t0_", 1, 0);
        fault("mthi $t0.", 1, 0);
    }

    /** Each instruction's word as section 5 has it: OP, s, t, d, shift, FUNCTION. */
    private static void instructionWords() {
        String[] threes = {"addu", "subu", "and", "or", "xor", "nor", "slt", "sltu"};
        int[] threeFunctions = {33, 35, 36, 37, 38, 39, 42, 43};
        for (int i = 0; i < threes.length; i++) {
            word(threes[i] + " $t0,$t1,$t2", 0, 9, 10, 8 << 11 | threeFunctions[i]);
        }
        word("sll $t0,$t1,31", 0, 0, 9, 8 << 11 | 31 << 6);
        word("srl $t0,$t1,1", 0, 0, 9, 8 << 11 | 1 << 6 | 2);
        word("sra $t0,$t1,0", 0, 0, 9, 8 << 11 | 3);
        word("sllv $t0,$t1,$t2", 0, 10, 9, 8 << 11 | 4);
        word("srlv $t0,$t1,$t2", 0, 10, 9, 8 << 11 | 6);
        word("srav $t0,$t1,$t2", 0, 10, 9, 8 << 11 | 7);
        word("mult $t0,$t1", 0, 8, 9, 24);
        word("multu $t0,$t1", 0, 8, 9, 25);
        word("div $t0,$t1", 0, 8, 9, 26);
        word("divu $t0,$t1", 0, 8, 9, 27);
        word("mfhi $t0", 0, 0, 0, 8 << 11 | 16);
        word("mthi $t0", 0, 8, 0, 17);
        word("mflo $t0", 0, 0, 0, 8 << 11 | 18);
        word("mtlo $t0", 0, 8, 0, 19);
        word("jr $t0", 0, 8, 0, 8);
        word("jalr $t0", 0, 8, 0, 31 << 11 | 9);
        word("syscall", 0, 0, 0, 12);
        word("break 0", 0, 0, 0, 13);
        word("break 1023", 0, 31, 31, 13);
        word("break 1", 0, 0, 1, 13);
        String[] halves = {"addiu", "slti", "sltiu", "andi", "ori", "xori"};
        for (int i = 0; i < halves.length; i++) {
            word(halves[i] + " $t0,$t1,5", 9 + i, 9, 8, 5);
        }
        word("lui $t0,65535", 15, 0, 8, 65535);
        String[] memory = {"lb", "lh", "lw", "lbu", "lhu", "sb", "sh", "sw"};
        int[] memoryOps = {32, 33, 35, 36, 37, 40, 41, 43};
        for (int i = 0; i < memory.length; i++) {
            word(memory[i] + " $t0,-1($t1)", memoryOps[i], 9, 8, 65535);
            word(memory[i] + " $t0,x", 15, 0, 1, 0);
        }
        word("x: beq $t0,$t1,x", 4, 8, 9, 65535);
        word("x: bne $t0,$t1,x", 5, 8, 9, 65535);
        word("x: blez $t0,x", 6, 8, 0, 65535);
        word("x: bgtz $t0,x", 7, 8, 0, 65535);
        word("x: bltz $t0,x", 1, 8, 0, 65535);
        word("x: bgez $t0,x", 1, 8, 1, 65535);
        word("x: bltzal $t0,x", 1, 8, 16, 65535);
        word("x: bgezal $t0,x", 1, 8, 17, 65535);
        word("x: j x", 2, 0, 0, 0);
        word("x: jal x", 3, 0, 0, 0);
        word("beq $t0,$t1,x", 4, 8, 9, 0);
    }

    /** Operands that an instruction has not, or lacks. */
    private static void operands() {
        String[] wrong = {
            "addu $t0,$t1", "addu $t0,$t1,5", "addu $t0,$t1,$t2,$t3", "addu $t0 $t1,$t2", "addu", "sll $t0,$t1,$t2", "sll $t0,$t1,x", "sllv $t0,$t1,5",
            "mult $t0", "mult $t0,$t1,$t2", "mfhi", "mfhi $t0,$t1", "mfhi 5", "mthi 5", "jr", "jr x", "jr $t0,$t1", "jalr x", "jalr $ra,$t0", "syscall 1", "syscall $t0",
            "break", "break $t0", "break x", "break 1,1", "addiu $t0,$t1", "addiu $t0,$t1,x", "addiu $t0,$t1,$t2", "addiu $t0,5", "addiu $t0,$t1,%hi(x)",
            "ori $t0,$t1,%lo(x)", "andi $t0,$t1,x", "xori $t0,$t1,", "lui $t0", "lui $t0,x", "lui $t0,%lo(x)", "lui $t0,$t1,5", "lui $t0,%hi x", "lui $t0,%hi(x", "lui $t0,%hi()",
            "lw $t0", "lw $t0,4", "lw $t0,($t1)", "lw $t0,x($t1)", "lw $t0,4($t1", "lw $t0,4($t1)x", "lw $t0,4(5)", "lw $t0,%lo(x)", "lw $t0,%hi(x)($t1)", "lw 4($t1)", "lw $t0,$t1",
            "sw $t0,x+y", "sw $t0,4()", "beq $t0,x", "beq $t0,$t1", "beq $t0,$t1,4", "beq $t0,$t1,$t2", "beq $t0,4,x", "blez x", "blez $t0,$t1,x", "blez $t0,4",
            "bgezal $t0,%lo(x)", "j 4", "j $t0", "jal", "jal x,y", "j x y", "nop 1", "nop $t0", "move $t0", "move $t0,5", "move $t0,$t1,$t2", "not $t0", "neg $t0,1",
            "li $t0", "li $t0,x", "li $t0,$t1", "li 5", "li $t0,5,6", "la $t0", "la $t0,5", "la $t0,x($t1)", "la x", "b", "b 5", "b $t0", "b x,y", "beqz x", "beqz $t0", "beqz $t0,$t1,x", "bnez $t0,5",
            "blt $t0,x", "blt $t0,$t1", "blt $t0,5,x", "bge $t0,$t1,5", "bgt $t0,$t1,$t2", "ble $t0 $t1,x", "add $t0,$t1,$t2", "addi $t0,$t0,1", "bal x", "sub $t0,$t0,$t0", "jalr",
        };
        for (String text : wrong) {
            fault(text, 1, 0);
            fault("nop\nx: y:" + text, 1, 1);
        }
        for (String part : new String[] {"%", "%h", "%l", "%ho", "%li", "%xo", "%xi", "%hx", "%lx", "%hi_", "%lo0", "%lo.", "%hilo", "% hi", "% lo", "%HI"}) {
            fault("lui $t0," + part + "(x)", 1, 0);
            fault("addiu $t0,$t0," + part + "(x)", 1, 0);
            fault("lw $t0," + part + "(x)($t1)", 1, 0);
        }
        String[] right = {
            "addu $t0 , $t1,$t2", "lw $t0,%lo(x)($t1)", "lw $t0,%lo ( x+4 ) ($t1)", "lw $t0,x-4", "lw $t0,4-8($t1)", "sw $t0,1f\n1:", "lui $t0,%hi(1f)\n1:", "addiu $t0,$t1,%lo(5)",
            "slti $t0,$t1,%lo(x)", "sltiu $t0,$t1,%lo(x)", "j x+4", "b 1f+4\n1:", "la $t0,x+4", "la $t0,1f\n1:", "li $t0,1-2", "break 5+5", "sll $t0,$t1,31-31", "beq $t0,$t1,4+x",
        };
        for (String text : right) {
            fine(text);
        }
    }

    private static void edge(String ahead, String behind, long low, long high) {
        fine(ahead + low + behind);
        fine(ahead + high + behind);
        fault(ahead + (low - 1) + behind, 3, 0);
        fault(ahead + (high + 1) + behind, 3, 0);
        fault("nop\n" + ahead + "0x80000000" + behind, 3, 1);
        fault("nop\n" + ahead + "0x7fffffff" + behind, 3, 1);
    }

    /** Bounds are asked of the int that the value wraps to. */
    private static void bounds() {
        for (String shift : new String[] {"sll", "srl", "sra"}) {
            edge(shift + " $t0,$t1,", "", 0, 31);
        }
        edge("break ", "", 0, 1023);
        for (String half : new String[] {"addiu", "slti", "sltiu"}) {
            edge(half + " $t0,$t1,", "", -32768, 32767);
        }
        for (String half : new String[] {"andi", "ori", "xori"}) {
            edge(half + " $t0,$t1,", "", 0, 65535);
        }
        edge("lui $t0,", "", 0, 65535);
        for (String memory : new String[] {"lb", "lh", "lw", "lbu", "lhu", "sb", "sh", "sw"}) {
            edge(memory + " $t0,", "($t1)", -32768, 32767);
        }
        edge(".kind x,", "", 0, 15);
        edge(".want x,", "", 0, 15);
        edge(".half ", "", -32768, 65535);
        edge(".half 1,", ",1", -32768, 65535);
        edge(".byte ", "", -128, 255);
        edge(".byte 1,", ",1", -128, 255);
        edge(".space ", "", 0, 4096);
        edge(".align ", "", 0, 4);
        edge(".rept ", "\n.endr", 0, 100);
        fine("addiu $t0,$t1,4294934528");
        fine(".byte 0xffffff80");
        fine(".space 0xffffffff+1");
        fine(".rept 0xffffffff+2\n.endr");
        fine("break 4294967295+1024");
        fault("break 4294967295+1025", 3, 0);
        fault("sll $t0,$t1,4294967295", 3, 0);
        bytes(".half -1,-32768,65535,32768", "255 255 0 128 255 255 0 128");
        bytes(".byte -1,-128,255,128", "255 128 255 128");
        bytes("lui $t0,%hi(0x00018000)\naddiu $t0,$t0,%lo(0x00018000)", "2 0 8 60 0 128 8 37");
        bytes("lui $t0,%hi(0x00017fff)\naddiu $t0,$t0,%lo(0x00017fff)", "1 0 8 60 255 127 8 37");
        bytes("lui $t0,%hi(0xffffffff)\naddiu $t0,$t0,%lo(-1)", "0 0 8 60 255 255 8 37");
        bytes("lui $t0,%hi(0x7fffffff)", "0 128 8 60");
        bytes("lui $t0,%hi(0x7fff8000)", "0 128 8 60");
        bytes("lui $t0,%hi(0x7fff7fff)", "255 127 8 60");
        bytes("lui $t0,%hi(0x80000000)", "0 128 8 60");
        bytes("lw $t0,%lo(0x12348765)($t1)", "101 135 40 141");
    }

    private static void others() {
        Due.words("nop", "sll $zero,$zero,0");
        Due.words("move $t0,$t1", "addu $t0,$t1,$zero");
        Due.words("not $t0,$t1", "nor $t0,$t1,$zero");
        Due.words("neg $t0,$t1", "subu $t0,$zero,$t1");
        Due.words("li $t0,0", "addiu $t0,$zero,0");
        Due.words("li $t0,32767", "addiu $t0,$zero,32767");
        Due.words("li $t0,-32768", "addiu $t0,$zero,-32768");
        Due.words("li $t0,0xffff8000", "addiu $t0,$zero,-32768");
        Due.words("li $t0,32768", "ori $t0,$zero,32768");
        Due.words("li $t0,65535", "ori $t0,$zero,65535");
        Due.words("li $t0,65536", "lui $t0,1");
        Due.words("li $t0,65537", "lui $t0,1 / ori $t0,$t0,1");
        Due.words("li $t0,-32769", "lui $t0,65535 / ori $t0,$t0,32767");
        Due.words("li $t0,-65536", "lui $t0,65535");
        Due.words("li $t0,0x80000000", "lui $t0,32768");
        Due.words("li $t0,2147483647", "lui $t0,32767 / ori $t0,$t0,65535");
        Due.words("li $ra,0x12345678", "lui $ra,4660 / ori $ra,$ra,22136");
        Due.words("la $t0,x", "lui $t0,0 / addiu $t0,$t0,0");
        Due.uses("la $t0,x+8", "0 0 1 -1 8 0 x / 0 4 2 -1 8 0 x / ");
        Due.words("lw $t0,x", "lui $at,0 / lw $t0,0($at)");
        Due.words("sb $t0,x", "lui $at,0 / sb $t0,0($at)");
        Due.uses("sb $t0,x-8", "0 0 1 -1 -8 0 x / 0 4 2 -1 -8 0 x / ");
        Due.words("x: b x", "beq $zero,$zero,-1 / sll $zero,$zero,0");
        Due.words("x: beqz $t0,x", "beq $t0,$zero,-1 / sll $zero,$zero,0");
        Due.words("x: bnez $t0,x", "bne $t0,$zero,-1 / sll $zero,$zero,0");
        Due.words("x: blt $t0,$t1,x", "slt $at,$t0,$t1 / bne $at,$zero,-2 / sll $zero,$zero,0");
        Due.words("x: bge $t0,$t1,x", "slt $at,$t0,$t1 / beq $at,$zero,-2 / sll $zero,$zero,0");
        Due.words("x: bgt $t0,$t1,x", "slt $at,$t1,$t0 / bne $at,$zero,-2 / sll $zero,$zero,0");
        Due.words("x: ble $t0,$t1,x", "slt $at,$t1,$t0 / beq $at,$zero,-2 / sll $zero,$zero,0");
    }

    /** The sections of a text: name, whether it is data, bytes, ALIGNMENT. */
    private static void sections(String text, String due) {
        ToolMill mill = new ToolMill();
        Due.is("assemble() of " + Due.shown(text), () -> Due.assemble(mill, text), 0);
        StringBuilder got = new StringBuilder();
        for (int i = 0; i < mill.unit(0, 1); i++) {
            StringBuilder name = new StringBuilder();
            for (int k = 0; k < 16; k++) {
                try {
                    name.append((char) mill.byteOf(0, i, -1 - k));
                } catch (java.util.NoSuchElementException behind) {
                    break;
                }
            }
            got.append(name).append(' ').append(mill.section(0, i, 0)).append(' ').append(mill.section(0, i, 1)).append(' ').append(mill.section(0, i, 2)).append("; ");
        }
        Due.same("sections of " + Due.shown(text), got.toString(), due);
    }

    private static void sectionLines() {
        sections("", "text 0 0 4; ");
        sections("nop\n.data\n.byte 1\n.text\nnop\n.data\n.byte 2", "text 0 8 4; data 1 2 4; ");
        sections(".data abcdefghijklmnop\n.text x\nnop\n.text abcdefgh\n", "text 0 0 4; abcdefghijklmnop 1 0 4; x 0 4 4; abcdefgh 0 0 4; ");
        sections(".text data\n.data d\n.text text\nnop", "text 0 4 4; data 0 0 4; d 1 0 4; ");
        fault(".data text", 2, 0);
        fault(".data\n.text data", 2, 1);
        fault(".text data\n.data", 2, 1);
        fault(".text data\n\n.data d\n.text d", 2, 3);
        fault(".text 5", 1, 0);
        fault(".text a b", 1, 0);
        fault(".text a,b", 1, 0);
        fault(".data $t0", 1, 0);
        fault(".data abcdefghijklmnopq", 1, 0);
        // instructions only in sections of text
        for (String text : new String[] {"nop", "addu $t0,$t0,$t0", "li $t0,5", "b x", "lw $t0,x", "syscall"}) {
            fault(".data\n" + text, 1, 1);
            fine(".data\n.text\n" + text);
        }
        fine(".text\n.word 1\n.half 1\n.byte 1\n.space 1");
    }

    private static void alignment() {
        sections(".align 0", "text 0 0 4; ");
        sections(".byte 1\n.align 0", "text 0 1 4; ");
        sections(".byte 1\n.align 1", "text 0 2 4; ");
        sections(".byte 1\n.align 2", "text 0 4 4; ");
        sections(".byte 1\n.align 3", "text 0 8 8; ");
        sections(".byte 1\n.align 4", "text 0 16 16; ");
        sections(".byte 1\n.align 4\n.align 3\n.align 1", "text 0 16 16; ");
        sections(".align 3\n.align 4\n.byte 1", "text 0 1 16; ");
        sections(".space 16\n.align 4", "text 0 16 16; ");
        sections(".space 17\n.align 4", "text 0 32 16; ");
        sections(".align 3\n.data\n.byte 1\n.align 2", "text 0 0 8; data 1 4 4; ");
        bytes(".byte 255\n.align 2\n.byte 255", "255 0 0 0 255");
        bytes(".space 0", "");
        bytes(".space 3\n.byte 1", "0 0 0 1");
        sections(".space 4096", "text 0 4096 4; ");
        fault(".align", 1, 0);
        fault(".align x", 1, 0);
        fault(".align 1,1", 1, 0);
        fault(".space", 1, 0);
        fault(".space x", 1, 0);
        fault(".space 1,1", 1, 0);
    }

    /** An instruction and .word need a place that is a multiple of 4, .half one of 2. */
    private static void places() {
        for (int past = 0; past < 5; past++) {
            String ahead = ".space " + past + "\n";
            fault(ahead + ".word 1", past % 4 == 0 ? 0 : 3, 1);
            fault(ahead + ".word x", past % 4 == 0 ? 0 : 3, 1);
            fault(ahead + "nop", past % 4 == 0 ? 0 : 3, 1);
            fault(ahead + "jr $ra", past % 4 == 0 ? 0 : 3, 1);
            fault(ahead + "la $t0,x", past % 4 == 0 ? 0 : 3, 1);
            fault(ahead + ".half 1", past % 2 == 0 ? 0 : 3, 1);
            fine(ahead + ".byte 1");
            fine(ahead + ".space 1");
            fine(ahead + ".align 2\n.word 1");
            fine(ahead + "x: .globl x");
            fine(ahead + ".data\n.word 1");
        }
        fault(".half 1\nnop", 3, 1);
        fine(".half 1,1\nnop");
        fault(".byte 1,2,3\n.word 1", 3, 1);
    }

    private static void told() {
        fine(".globl x\n.globl x\n.kind x,1\n.kind x,2\n.want x,3\n.want x,4");
        fault(".globl", 1, 0);
        fault(".globl 1", 1, 0);
        fault(".globl x,y", 1, 0);
        fault(".globl $t0", 1, 0);
        fault(".kind x", 1, 0);
        fault(".kind x 1", 1, 0);
        fault(".kind x,y", 1, 0);
        fault(".kind 1,1", 1, 0);
        fault(".kind x,1,1", 1, 0);
        fault(".want x", 1, 0);
        fault(".want x,y", 1, 0);
        fault(".want 1,1", 1, 0);
        fault(".want x,1 1", 1, 0);
        fault(".reorder 1", 1, 0);
        fault(".noreorder x", 1, 0);
        fine(".noreorder\n.reorder");
        ToolMill mill = new ToolMill();
        Due.assemble(mill, ".kind x,3\n.kind x,7\nx: y: .globl y\n1: z:\n.kind w,5\n.globl w\n.kind z,15\n.kind y,4\n.kind y,0\n.data\nabcdefghijklmnop:");
        Due.is("labels of words", () -> mill.unit(0, 2), 4);
        int[][] due = {{0, 0, 0, 7}, {0, 0, 1, 0}, {0, 0, 0, 15}, {1, 0, 0, 0}};
        for (int i = 0; i < due.length; i++) {
            for (int what = 0; what < 4; what++) {
                int k = i;
                int w = what;
                Due.is("label(0, " + k + ", " + w + ")", () -> mill.label(0, k, w), due[k][w]);
            }
        }
        Due.is("16th sign", () -> mill.label(0, 3, 25), (int) 'p');
        Due.is("behind the 16th sign", () -> mill.label(0, 3, 26), -1);
        Due.is("far behind", () -> mill.label(0, 3, Integer.MAX_VALUE), -1);
        Due.is("first sign", () -> mill.label(0, 0, 10), (int) 'x');
        Due.is("behind it", () -> mill.label(0, 0, 11), -1);
    }

    /** 1b is the nearest one ahead, 1f the nearest behind, in whatever section. */
    private static void references() {
        Due.uses("1: .space 4\n1: .word 1b,1f\n1: .word 1b,1f\n1:", "0 4 0 0 4 1  / 0 8 0 0 12 1  / 0 12 0 0 12 2  / 0 16 0 0 20 2  / ");
        Due.uses("0: .data\n.word 0b,9f\n.text\nnop\n9:", "1 0 0 0 0 1  / 1 4 0 0 4 1  / ");
        Due.uses("1: .word 1b-4,4+1b\n", "0 0 0 0 -4 0  / 0 4 0 0 4 0  / ");
        fault(".word 1b", 4, 0);
        fault(".word 1b\n1:", 4, 0);
        fault("2: .word 1b", 4, 0);
        fault("\n.word 1f", 4, 1);
        fault("1: .word 1f", 4, 0);
        fault("1:\n.word 1f\n.word 2b", 4, 2);
        fine("1: .word 1b");
        fault("b 1f\n.word 2f\n1:", 4, 1);
        fault(".word 2f\nb 1f\n1: b 3f", 4, 0);
        for (int digit = 0; digit < 10; digit++) {
            fine(digit + ": b " + digit + "b\nb " + digit + "f\n" + digit + ":");
            fault(digit + ": b " + (digit + 1) % 10 + "b", 4, 0);
            fault(digit + ": b " + (digit + 1) % 10 + "f", 4, 0);
        }
    }

    public static void main(String[] args) {
        words();
        numbers();
        values();
        namesOfAllSorts();
        registers();
        instructionWords();
        operands();
        bounds();
        others();
        sectionLines();
        alignment();
        places();
        told();
        references();
        Due.finish("ToolMillEdgesAssembly");
    }
}
