/** The edges that section 5 of the document names: slots, distances, relocations. */
public final class ToolMillEdgesObjects {
    private static final String NOP = "sll $zero,$zero,0";
    /** Branches and jumps under .reorder, with the registers $t0 and $t1 where they read some. */
    private static final String[] TURNS = {
        "beq $t0,$t1,x", "bne $t0,$t1,x", "blez $t0,x", "bgtz $t0,x", "bltz $t0,x", "bgez $t0,x", "bltzal $t0,x", "bgezal $t0,x", "j x", "jal x", "jr $t0", "jalr $t0",
    };
    /** Instructions that set $t0 by their words. */
    private static final String[] SETS = {
        "addu $t0,$t2,$t3", "subu $t0,$t2,$t3", "and $t0,$t2,$t3", "or $t0,$t2,$t3", "xor $t0,$t2,$t3", "nor $t0,$t2,$t3", "slt $t0,$t2,$t3", "sltu $t0,$t2,$t3",
        "sll $t0,$t2,1", "srl $t0,$t2,1", "sra $t0,$t2,1", "sllv $t0,$t2,$t3", "srlv $t0,$t2,$t3", "srav $t0,$t2,$t3", "mfhi $t0", "mflo $t0",
        "addiu $t0,$t2,1", "slti $t0,$t2,1", "sltiu $t0,$t2,1", "andi $t0,$t2,1", "ori $t0,$t2,1", "xori $t0,$t2,1", "lui $t0,1",
        "lb $t0,0($t2)", "lh $t0,0($t2)", "lw $t0,0($t2)", "lbu $t0,0($t2)", "lhu $t0,0($t2)",
    };
    /** Instructions that set no register, though they read $t0. */
    private static final String[] READS_ONLY = {
        "sb $t0,0($t0)", "sh $t0,0($t0)", "sw $t0,0($t0)", "mult $t0,$t0", "multu $t0,$t0", "div $t0,$t0", "divu $t0,$t0", "mthi $t0", "mtlo $t0",
    };

    private ToolMillEdgesObjects() {
    }

    private static void fault(String text, int kind, int line) {
        Due.line(text, kind, line);
    }

    private static String listed(String text) {
        ToolMill mill = new ToolMill();
        if (Due.assemble(mill, text) != 0) {
            return "fault " + mill.fault(0);
        }
        return Due.listing(mill, 0, 0).replace("\n", " / ");
    }

    /** Whether the instruction ahead goes into the slot: it is behind the branch then, otherwise a nop is. */
    private static void moves(String ahead, String turn, boolean due) {
        String[] words = listed(ahead + "\n" + turn).split(" / ");
        Due.is("words of " + ahead + " / " + turn, () -> words.length, due ? 2 : 3);
        Due.same("first word of " + ahead + " / " + turn, words[0].split(" ")[0], (due ? turn : ahead).split(" ")[0]);
        String slot = words[words.length - 1];
        Due.same("slot of " + ahead + " / " + turn, slot, due ? ahead : NOP);
    }

    private static void slotsOfEach() {
        for (String turn : TURNS) {
            boolean reads = turn.contains("$t0");
            for (String ahead : SETS) {
                moves(ahead, turn, !reads);
                moves(ahead.replace("$t0", "$t4"), turn, true);
                moves(ahead.replace("$t0", "$zero"), turn.replace("$t0", "$zero"), true);
                if (turn.contains("$t1")) {
                    moves(ahead.replace("$t0", "$t1"), turn, false);
                }
            }
            for (String ahead : READS_ONLY) {
                moves(ahead, turn, true);
                moves(ahead, turn.replace("$t0", "$at"), true);
                moves(ahead, turn.replace("$t0", "$ra").replace("$t1", "$v0"), true);
            }
            for (String ahead : new String[] {"syscall", "break 5"}) {
                moves(ahead, turn, false);
            }
            moves(NOP, turn, true);
        }
    }

    /** Of jal jalr bltzal bgezal: one that reads or sets $ra isn't moved; the others don't matter. */
    private static void slotsOfRa() {
        String[] readers = {
            "addu $t4,$ra,$t5", "addu $t4,$t5,$ra", "sll $t4,$ra,1", "sllv $t4,$ra,$t5", "sllv $t4,$t5,$ra", "addiu $t4,$ra,1", "andi $t4,$ra,1", "lw $t4,0($ra)",
            "sw $ra,0($t4)", "sw $t4,0($ra)", "sb $ra,0($t4)", "mult $ra,$t4", "divu $t4,$ra", "mthi $ra", "mtlo $ra",
        };
        for (String turn : TURNS) {
            boolean links = turn.startsWith("jal") || turn.contains("zal");
            for (String ahead : readers) {
                moves(ahead, turn, !links);
            }
            for (String ahead : SETS) {
                moves(ahead.replace("$t0", "$ra"), turn, !links);
            }
        }
        moves("addiu $ra,$t4,1", "jr $ra", false);
        moves("sw $ra,0($t4)", "jr $ra", true);
        // bits that are no register of theirs
        moves("lui $t4,31", "jal x", true);
        moves("addiu $t4,$t5,-1", "jal x", true);
        moves("sll $t4,$t5,31", "jal x", true);
        moves("mfhi $t4", "jal x", true);
    }

    private static void slotsOfLines() {
        String moved = "jr $ra / addiu $t0,$zero,1";
        String kept = "addiu $t0,$zero,1 / jr $ra / " + NOP;
        Due.words("jr $ra", "jr $ra / " + NOP);
        Due.words("li $t0,1\njr $ra", moved);
        Due.words("x: li $t0,1\njr $ra", moved);
        Due.words("li $t0,1\nx: jr $ra", kept);
        Due.words("li $t0,1\nx:\njr $ra", kept);
        Due.words("li $t0,1\n5: jr $ra", kept);
        Due.words("li $t0,1\n.globl x\n.kind x,1\n.want x,1\n.set y,1\n.text\n.reorder\n.if 1\n.endif\n.rept 0\n.endr\n\njr $ra", moved);
        Due.words("li $t0,1\n.data\nx: .word 1\n.align 3\n.text y\nz: nop\n.text\njr $ra", moved);
        Due.words("li $t0,1\n.text y\n.text\nx:\n.text y\n.text\njr $ra", kept);
        Due.words("li $t0,1\n.noreorder\n.reorder\njr $ra", moved);
        Due.words(".noreorder\nli $t0,1\n.reorder\njr $ra", kept);
        Due.words("li $t0,1\n.noreorder\njr $ra", "addiu $t0,$zero,1 / jr $ra");
        Due.words("li $t0,1\n.align 0\njr $ra", kept);
        Due.words("li $t0,1\n.align 2\njr $ra", kept);
        Due.words("li $t0,1\n.space 0\njr $ra", kept);
        Due.words("li $t0,1\n.space 4\njr $ra", "addiu $t0,$zero,1 / " + NOP + " / jr $ra / " + NOP);
        Due.words("li $t0,1\n.word 0\njr $ra", "addiu $t0,$zero,1 / " + NOP + " / jr $ra / " + NOP);
        Due.words("li $t0,1\n.half 0,0\njr $ra", "addiu $t0,$zero,1 / " + NOP + " / jr $ra / " + NOP);
        Due.words("li $t0,1\n.byte 0,0,0,0\njr $ra", "addiu $t0,$zero,1 / " + NOP + " / jr $ra / " + NOP);
        Due.words(".word 0\njr $ra", NOP + " / jr $ra / " + NOP);
        // behind a slot, whatever is in it
        Due.words("jr $ra\njr $t1", "jr $ra / " + NOP + " / jr $t1 / " + NOP);
        Due.words("li $t0,1\njr $ra\njr $t1", moved + " / jr $t1 / " + NOP);
        Due.words("jr $ra\nli $t0,1\njr $t1", "jr $ra / " + NOP + " / jr $t1 / addiu $t0,$zero,1");
        Due.words(".noreorder\njr $ra\n.reorder\njr $t1", "jr $ra / jr $t1 / " + NOP);
        Due.words(".noreorder\njr $ra\nnop\n.reorder\njr $t1", "jr $ra / " + NOP + " / jr $t1 / " + NOP);
        // the last of several instructions of one line
        Due.words("li $t0,65537\njr $ra", "lui $t0,1 / jr $ra / ori $t0,$t0,1");
        Due.words("la $t0,x\njr $ra", "lui $t0,0 / jr $ra / addiu $t0,$t0,0");
        Due.words("li $t0,1\nblt $t1,$t2,x\nx:", "addiu $t0,$zero,1 / slt $at,$t1,$t2 / bne $at,$zero,1 / " + NOP);
        Due.words("li $t0,1\nbeqz $t1,x\nx:", "beq $t1,$zero,1 / addiu $t0,$zero,1");
        Due.words("li $t0,1\nb x\nx:", "beq $zero,$zero,1 / addiu $t0,$zero,1");
        Due.words(".macro m\njr $ra\n.endm\nli $t0,1\nm", moved);
        Due.words(".text\n.text y\nli $t0,1\n.text\njr $ra", "jr $ra / " + NOP);
    }

    /** Other sections' bytes stay what they are, whatever comes into one. */
    private static void bytesOfOthers() {
        ToolMill mill = new ToolMill();
        Due.is("assemble()", () -> Due.assemble(mill, ".data a\n.byte 255,254\n.text t\nli $t0,1\n.data b\n.byte 253,252,251,250\n.text t\njr $ra\nnop\n.data a\n.byte 249\n.text\nli $t1,2\njr $ra\n.text t\nb t+8"), 0);
        int[][] due = {{}, {255, 254, 249}, {}, {253, 252, 251, 250}};
        for (int i = 0; i < due.length; i++) {
            for (int k = 0; k < due[i].length; k++) {
                int section = i;
                int at = k;
                Due.is("byteOf(0, " + i + ", " + k + ")", () -> mill.byteOf(0, section, at), due[i][k]);
            }
        }
        Due.same("text", Due.listing(mill, 0, 0), "jr $ra\naddiu $t1,$zero,2\n");
        Due.same("t", Due.listing(mill, 0, 2), "jr $ra\naddiu $t0,$zero,1\nbeq $zero,$zero,0\n" + NOP + "\n");
        Due.is("all bytes", () -> mill.unit(0, 4), 8 + 3 + 16 + 4);
    }

    /** With the instruction that is moved its use of a label goes, too. */
    private static void movedUses() {
        Due.uses("addiu $t0,$t1,%lo(x)\njal y", "0 4 2 -1 0 0 x / 0 0 3 -1 0 1 y / ");
        Due.uses("lw $t0,x+4\nj y+8", "0 0 1 -1 4 0 x / 0 8 2 -1 4 0 x / 0 4 3 -1 8 1 y / ");
        Due.uses("addiu $t0,$t1,%lo(x)\nbeq $t1,$t2,y", "0 4 2 -1 0 0 x / 0 0 4 -1 0 1 y / ");
        Due.uses("addiu $t0,$t1,%lo(x)\njr $t1\nlui $t0,%hi(x)\njr $t1", "0 4 2 -1 0 0 x / 0 12 1 -1 0 2 x / ");
        Due.uses("addiu $t0,$t1,%lo(x)\njr $t0", "0 0 2 -1 0 0 x / ");
        Due.uses("addiu $t0,$t1,%lo(x)\nx: jal y", "0 0 2 0 4 0  / 0 4 3 -1 0 1 y / ");
        // a label ahead of the moved one is the branch's place
        ToolMill mill = new ToolMill();
        Due.assemble(mill, "x: li $t0,1\nj x\ny:");
        Due.is("place of x", () -> mill.label(0, 0, 1), 0);
        Due.is("place of y", () -> mill.label(0, 1, 1), 8);
        Due.uses("x: li $t0,1\nj x", "0 0 3 0 0 1  / ");
    }

    /** A distance in its own section, from the slot: -32768 .. 32767 and whole. */
    private static void distances() {
        Due.words("x: b x", "beq $zero,$zero,-1 / " + NOP);
        Due.words("b x\nx:", "beq $zero,$zero,1 / " + NOP);
        Due.words("b x+4\nx:", "beq $zero,$zero,2 / " + NOP);
        Due.words("b x-8\nx:", "beq $zero,$zero,-1 / " + NOP);
        Due.words("b x-4\nx:", "beq $zero,$zero,0 / " + NOP);
        Due.words("x: b x+131072", "beq $zero,$zero,32767 / " + NOP);
        fault("x: b x+131076", 3, 0);
        Due.words("x: b x-131068", "beq $zero,$zero,-32768 / " + NOP);
        fault("x: b x-131072", 3, 0);
        for (int past = 1; past < 4; past++) {
            fault("\nx: b x+" + past, 3, 1);
            fault("\nx: b x-" + past, 3, 1);
        }
        fault("x: b x+0x7fffffff+1", 3, 0);
        Due.words("x: b x+0xffffffff+1", "beq $zero,$zero,-1 / " + NOP);
        Due.words("li $t0,1\nx: nop\nb x", "addiu $t0,$zero,1 / beq $zero,$zero,-1 / " + NOP);
        Due.words("1: nop\n.noreorder\nb 1b\nb 1f\n1:", NOP + " / beq $zero,$zero,-2 / beq $zero,$zero,0");
        Due.words(".globl x\nx: b x", "beq $zero,$zero,-1 / " + NOP);
        // to another section, or to no label of the unit, it is a relocation whatever is added
        Due.uses("b x+1\n.text y\nx:", "0 0 4 1 1 0  / ");
        Due.uses("b x+131080", "0 0 4 -1 131080 0 x / ");
        Due.words("b x+131080", "beq $zero,$zero,0 / " + NOP);
        Due.words("b x\n.text y\n.space 8\nx:", "beq $zero,$zero,0 / " + NOP);
    }

    private static void relocations() {
        Due.uses("nop", "");
        Due.uses("x: b x\n.word abcdefghijklmnop,z\nb x\nb y+4", "0 8 0 -1 0 1 abcdefghijklmnop / 0 12 0 -1 0 1 z / 0 24 4 -1 4 3 y / ");
        Due.words("lui $t1,%hi(x)", "lui $t1,0");
        Due.words("addiu $t1,$t2,%lo(x)", "addiu $t1,$t2,0");
        Due.words("lw $t1,%lo(x+5)($t2)", "lw $t1,0($t2)");
        Due.words("sw $t1,x+5", "lui $at,0 / sw $t1,0($at)");
        Due.words("jal x+8", "jal 0 / " + NOP);
        Due.words("beq $t1,$t2,x+8", "beq $t1,$t2,0 / " + NOP);
        Due.words(".word x+5", NOP);
        Due.uses(".word x,5,y-1", "0 0 0 -1 0 0 x / 0 8 0 -1 -1 0 y / ");
        Due.uses("x: .word x+4", "0 0 0 0 4 0  / ");
        Due.uses(".space 8\nx: .word 0\n.data\n.word x,x-100", "1 0 0 0 8 3  / 1 4 0 0 -92 3  / ");
        Due.uses(".globl x\nx: .word x", "0 0 0 0 0 1  / ");
        Due.uses("j x\nx:", "0 0 3 0 8 0  / ");
        Due.uses("lui $t0,%hi(x+70000)\nlw $t0,%lo(x+70000)($t0)", "0 0 1 -1 70000 0 x / 0 4 2 -1 70000 1 x / ");
        Due.uses("lui $t0,%hi(7)\nlw $t0,%lo(7)($t0)", "");
        Due.uses(".word x+0x7fffffff+1", "0 0 0 -1 -2147483648 0 x / ");
        Due.uses(".space 4\nx: .word x+0x7fffffff", "0 4 0 0 -2147483645 1  / ");
        Due.uses("\n.macro m a\n.word \\a\n.endm\n.rept 2\nm abcdefghijklmnop\n.endr", "0 0 0 -1 0 4 abcdefghijklmnop / 0 4 0 -1 0 4 abcdefghijklmnop / ");
        Due.uses("x: beqz $t0,x\nb y\nla $t0,z\n.data d\ny: z: .word z", "0 8 4 1 0 1  / 0 16 1 1 0 2  / 0 20 2 1 0 2  / 1 0 0 1 0 4  / ");
        ToolMill mill = new ToolMill();
        Due.assemble(mill, ".word abcdefghijklmnop,x\nx:");
        Due.is("first sign", () -> mill.relocation(0, 0, 10), (int) 'a');
        Due.is("16th sign", () -> mill.relocation(0, 0, 25), (int) 'p');
        Due.is("behind it", () -> mill.relocation(0, 0, 26), -1);
        Due.is("far behind it", () -> mill.relocation(0, 0, Integer.MAX_VALUE), -1);
        Due.is("no name", () -> mill.relocation(0, 1, 10), -1);
        for (int k = 10; k < 30; k++) {
            int what = k;
            Due.is("no name, sign " + (k - 10), () -> mill.relocation(0, 1, what), -1);
        }
        ToolMill own = new ToolMill();
        Due.assemble(own, "abcdefghijklmnop: .word abcdefghijklmnop");
        for (int k = 10; k < 30; k++) {
            int what = k;
            Due.is("a label of its own, sign " + (k - 10), () -> own.relocation(0, 0, what), -1);
        }
        ToolMill digits = new ToolMill();
        Due.assemble(digits, "1: .word abcdefghijklmnop,1b,1f\n1:");
        for (int k = 10; k < 30; k++) {
            int what = k;
            Due.is("1b has no name, sign " + (k - 10), () -> digits.relocation(0, 1, what), -1);
            Due.is("1f has no name, sign " + (k - 10), () -> digits.relocation(0, 2, what), -1);
        }
        Due.is("NONE of a name", () -> mill.relocation(0, 0, 3), -1);
        Due.is("section of a label", () -> mill.relocation(0, 1, 3), 0);
        Due.is("the word in the object is 0", () -> mill.byteOf(0, 0, 0) + mill.byteOf(0, 0, 4), 0);
    }

    /** Promises 9 to 13 of the runtime, which is unit 6, also if there are no others. */
    private static void runtime() {
        ToolMill mill = new ToolMill();
        int[] unit = {0, 3, 4, 1, 32};
        for (int what = 0; what < 5; what++) {
            int k = what;
            Due.is("unit(6, " + k + ")", () -> mill.unit(6, k), unit[k]);
        }
        int[] bytes = {0, 20, 12};
        for (int i = 0; i < 3; i++) {
            int k = i;
            Due.is("section(6, " + k + ", 0)", () -> mill.section(6, k, 0), 0);
            Due.is("section(6, " + k + ", 1)", () -> mill.section(6, k, 1), bytes[k]);
            Due.is("section(6, " + k + ", 2)", () -> mill.section(6, k, 2), 4);
            Due.is("section(6, " + k + ", 3)", () -> mill.section(6, k, 3), -1);
        }
        Due.same("_start", Due.listing(mill, 6, 1), "jal 0\n" + NOP + "\naddu $a0,$v0,$zero\naddiu $v0,$zero,10\nsyscall\n");
        Due.same("_traps", Due.listing(mill, 6, 2), "break 1\nbreak 2\nbreak 3\n");
        Due.same("relocations", Due.relocations(mill, 6), "1 0 3 -1 0 2 main\n");
        String[] names = {"_start", "_div", "_index", "_room"};
        int[] sections = {1, 2, 2, 2};
        int[] places = {0, 0, 4, 8};
        for (int i = 0; i < 4; i++) {
            int k = i;
            StringBuilder name = new StringBuilder();
            for (int j = 10; mill.label(6, k, j) != ToolMill.NONE; j++) {
                name.append((char) mill.label(6, k, j));
            }
            Due.same("name of label " + k, name.toString(), names[k]);
            Due.is("section of label " + k, () -> mill.label(6, k, 0), sections[k]);
            Due.is("place of label " + k, () -> mill.label(6, k, 1), places[k]);
            Due.is("label " + k + " is global", () -> mill.label(6, k, 2), 1);
            Due.is("KIND of label " + k, () -> mill.label(6, k, 3), 0);
        }
    }

    public static void main(String[] args) {
        slotsOfEach();
        slotsOfRa();
        slotsOfLines();
        bytesOfOthers();
        movedUses();
        distances();
        relocations();
        runtime();
        Due.finish("ToolMillEdgesObjects");
    }
}
