import java.util.function.IntBinaryOperator;

/** The edges that section 7 of the document names, and those of run(), state(), register(), word(), output(), input(), listing(). */
public final class ToolMillEdgesMachine {
    private static final String MAIN = ".globl main\nmain: ";
    private static final String LEAVE = "\nli $v0,10\nsyscall";
    private static final int[] VALUES = {
        0, 1, 2, 3, -1, -2, 7, -7, 31, 32, 33, 100, 32767, 32768, 65535, 65536, -32768, -32769, Integer.MAX_VALUE, Integer.MIN_VALUE, Integer.MIN_VALUE + 1, 0x12345678,
    };
    private static final int[] HALVES = {0, 1, -1, 2, 32767, -32768, 255, -256};
    private static final ToolMill SHARED = new ToolMill();

    private ToolMillEdgesMachine() {
    }

    /** The shared mill with one unit in assembly, linked at 400 with 1024 bytes. */
    private static ToolMill linked(String text) {
        SHARED.forget();
        if (Due.assemble(SHARED, MAIN + text) != 0 || SHARED.link(400, 1024) < 0) {
            Due.same("link() of " + Due.shown(text), "fault " + SHARED.fault(0) + " in line " + SHARED.fault(1), "no fault");
        }
        return SHARED;
    }

    private static void stops(String text, int outcome, int number) {
        ToolMill mill = linked(text);
        mill.run(20000);
        Due.is("OUTCOME of " + Due.shown(text), () -> mill.state(0), outcome);
        Due.is("number of " + Due.shown(text), () -> mill.state(1), number);
    }

    /** The program leaves with $a0. */
    private static void leaves(String text, int value) {
        stops(text + LEAVE, 1, value);
    }

    private static void two(String operation, IntBinaryOperator due) {
        for (int s : VALUES) {
            for (int t : VALUES) {
                leaves("li $t0," + s + "\nli $t1," + t + "\n" + operation, due.applyAsInt(s, t));
            }
        }
    }

    private static void arithmetic() {
        two("addu $a0,$t0,$t1", (s, t) -> s + t);
        two("subu $a0,$t0,$t1", (s, t) -> s - t);
        two("and $a0,$t0,$t1", (s, t) -> s & t);
        two("or $a0,$t0,$t1", (s, t) -> s | t);
        two("xor $a0,$t0,$t1", (s, t) -> s ^ t);
        two("nor $a0,$t0,$t1", (s, t) -> ~(s | t));
        two("slt $a0,$t0,$t1", (s, t) -> s < t ? 1 : 0);
        two("sltu $a0,$t0,$t1", (s, t) -> Integer.compareUnsigned(s, t) < 0 ? 1 : 0);
        two("sllv $a0,$t0,$t1", (t, s) -> t << (s & 31));
        two("srlv $a0,$t0,$t1", (t, s) -> t >>> (s & 31));
        two("srav $a0,$t0,$t1", (t, s) -> t >> (s & 31));
        two("mult $t0,$t1\nmfhi $a0", (s, t) -> (int) ((long) s * t >> 32));
        two("mult $t0,$t1\nmflo $a0", (s, t) -> s * t);
        two("multu $t0,$t1\nmfhi $a0", (s, t) -> (int) ((s & 0xFFFFFFFFL) * (t & 0xFFFFFFFFL) >>> 32));
        two("multu $t0,$t1\nmflo $a0", (s, t) -> s * t);
        // by 0 both stay
        String ahead = "li $t2,55\nmthi $t2\nli $t2,66\nmtlo $t2\n";
        two(ahead + "div $t0,$t1\nmflo $a0", (s, t) -> t == 0 ? 66 : s / t);
        two(ahead + "div $t0,$t1\nmfhi $a0", (s, t) -> t == 0 ? 55 : s % t);
        two(ahead + "divu $t0,$t1\nmflo $a0", (s, t) -> t == 0 ? 66 : Integer.divideUnsigned(s, t));
        two(ahead + "divu $t0,$t1\nmfhi $a0", (s, t) -> t == 0 ? 55 : Integer.remainderUnsigned(s, t));
        leaves("li $t0,0x80000000\nli $t1,-1\ndiv $t0,$t1\nmflo $a0", Integer.MIN_VALUE);
        leaves("li $t0,0x80000000\nli $t1,-1\ndiv $t0,$t1\nmfhi $a0", 0);
    }

    private static void halves() {
        for (int s : VALUES) {
            for (int half : HALVES) {
                String code = "li $t0," + s + "\n";
                leaves(code + "addiu $a0,$t0," + half, s + half);
                leaves(code + "slti $a0,$t0," + half, s < half ? 1 : 0);
                leaves(code + "sltiu $a0,$t0," + half, Integer.compareUnsigned(s, half) < 0 ? 1 : 0);
                int low = half & 65535;
                leaves(code + "andi $a0,$t0," + low, s & low);
                leaves(code + "ori $a0,$t0," + low, s | low);
                leaves(code + "xori $a0,$t0," + low, s ^ low);
            }
            for (int n : new int[] {0, 1, 15, 16, 31}) {
                leaves("li $t0," + s + "\nsll $a0,$t0," + n, s << n);
                leaves("li $t0," + s + "\nsrl $a0,$t0," + n, s >>> n);
                leaves("li $t0," + s + "\nsra $a0,$t0," + n, s >> n);
            }
        }
        leaves("lui $a0,65535", -65536);
        leaves("lui $a0,1", 65536);
        leaves("lui $a0,0", 0);
        // $zero is 0 always
        leaves("li $zero,5\nmove $a0,$zero", 0);
        leaves("li $t0,9\nsw $t0,-4($sp)\nlw $zero,-4($sp)\nmove $a0,$zero", 0);
        leaves("li $t0,9\nmtlo $t0\nmflo $zero\nmove $a0,$zero", 0);
    }

    /** Each register as each operand. */
    private static void registers() {
        for (int r = 1; r < 32; r++) {
            String name = "$" + r;
            String set = ".noreorder\nli " + name + ",21845\n";
            leaves(set + "addu $a0," + name + ",$zero", 21845);
            leaves(set + "addu $a0,$zero," + name, 21845);
            leaves(set + "addiu $a0," + name + ",0", 21845);
            leaves(set + "sll $a0," + name + ",0", 21845);
            leaves(set + "srlv $a0," + name + ",$zero", 21845);
            leaves(set + "mthi " + name + "\nli " + name + ",0\nmfhi " + name + "\nmove $a0," + name, 21845);
            leaves(set + "mtlo " + name + "\nli " + name + ",0\nmflo " + name + "\nmove $a0," + name, 21845);
            leaves("li $s0,7\nli $s1,1\naddu " + name + ",$s0,$zero\nmove $a0," + name, 7);
            leaves("li $s0,7\nori " + name + ",$s0,8\nmove $a0," + name, 15);
            leaves("lui " + name + ",3\nmove $a0," + name, 3 << 16);
            leaves("li $s0,7\nsra " + name + ",$s0,1\nmove $a0," + name, 3);
            if (r != 29) {
                leaves("li $s0,9\nsw $s0,-4($sp)\nlw " + name + ",-4($sp)\nmove $a0," + name, 9);
                leaves(set + "sw " + name + ",-4($sp)\nlw $a0,-4($sp)", 21845);
                leaves("li $t0,9\nsw $t0,-8($sp)\naddiu " + name + ",$sp,-4\nlw $a0,-4(" + name + ")", 9);
            }
            int k = r;
            Due.is("register(" + r + ")", () -> {
                linked("li " + name + ",12345\nbreak 0").run(20000);
                return SHARED.register(k);
            }, 12345);
        }
    }

    private static void branches() {
        String[] ones = {"blez", "bgtz", "bltz", "bgez", "bltzal", "bgezal"};
        for (int s : VALUES) {
            boolean[] taken = {s <= 0, s > 0, s < 0, s >= 0, s < 0, s >= 0};
            for (int i = 0; i < ones.length; i++) {
                // $ra is set whether taken or not
                String code = ".noreorder\nli $ra,7\nli $a0,1\nli $t0,-1\nsrl $t0,$t0,0\nlui $t0," + (s >>> 16) + "\nori $t0,$t0," + (s & 65535) + "\n" + ones[i] + " $t0,1f\nnop\nli $a0,2\n1: move $s0,$ra";
                leaves(code, taken[i] ? 1 : 2);
                Due.is("$ra of " + ones[i] + " with " + s, () -> SHARED.register(16), i >= 4 ? 400 + 24 + 8 : 7);
            }
            for (int t : VALUES) {
                leaves("li $t0," + s + "\nli $t1," + t + "\nli $a0,1\nbeq $t0,$t1,1f\nli $a0,2\n1:", s == t ? 1 : 2);
                leaves("li $t0," + s + "\nli $t1," + t + "\nli $a0,1\nbne $t0,$t1,1f\nli $a0,2\n1:", s != t ? 1 : 2);
            }
        }
        // the branch asks ahead of setting $ra, jalr takes its register ahead of that
        leaves(".noreorder\nli $ra,-1\nbltzal $ra,1f\nli $a0,1\nli $a0,2\n1:", 1);
        leaves(".noreorder\nli $ra,1\nbltzal $ra,1f\nli $a0,1\nli $a0,2\n1:", 2);
        leaves(".noreorder\nla $ra,1f\njalr $ra\nli $a0,1\nli $a0,2\n1: move $a1,$ra", 1);
        Due.is("$ra behind jalr", () -> SHARED.register(5), 400 + 16);
        leaves(".noreorder\njal 1f\nli $a0,1\nli $a0,2\n1: move $a1,$ra", 1);
        Due.is("$ra behind jal", () -> SHARED.register(5), 400 + 8);
        leaves(".noreorder\nli $ra,3\nj 1f\nli $a0,1\nli $a0,2\n1: move $a1,$ra", 1);
        Due.is("$ra behind j", () -> SHARED.register(5), 3);
        // a branch in a slot: one instruction of the first target, then the second target
        leaves(".noreorder\nb 1f\nb 2f\nli $a0,9\n1: addiu $a0,$a0,1\naddiu $a0,$a0,10\n2: addiu $a0,$a0,100", 101);
        leaves(".noreorder\nla $t0,2f\nb 1f\njr $t0\nli $a0,9\n1: addiu $a0,$a0,1\naddiu $a0,$a0,10\n2: addiu $a0,$a0,100", 101);
        // a branch that is not taken in a slot leaves the first one's target
        leaves(".noreorder\nli $a0,0\nb 1f\nbnez $zero,2f\nli $a0,9\n1: addiu $a0,$a0,1\naddiu $a0,$a0,10\n2: addiu $a0,$a0,100", 111);
        // a distance of 0 is the slot again
        leaves(".noreorder\nli $a0,0\nbeq $zero,$zero,1f\n1: addiu $a0,$a0,1\nnop", 2);
    }

    private static void memory() {
        leaves("li $t0,0x81828384\nsw $t0,-4($sp)\nlb $a0,-4($sp)", (byte) 0x84);
        leaves("li $t0,0x81828384\nsw $t0,-4($sp)\nlb $a0,-1($sp)", (byte) 0x81);
        leaves("li $t0,0x81828384\nsw $t0,-4($sp)\nlbu $a0,-2($sp)", 0x82);
        leaves("li $t0,0x81828384\nsw $t0,-4($sp)\nlbu $a0,-3($sp)", 0x83);
        leaves("li $t0,0x81828384\nsw $t0,-4($sp)\nlh $a0,-4($sp)", (short) 0x8384);
        leaves("li $t0,0x81828384\nsw $t0,-4($sp)\nlh $a0,-2($sp)", (short) 0x8182);
        leaves("li $t0,0x81828384\nsw $t0,-4($sp)\nlhu $a0,-2($sp)", 0x8182);
        leaves("li $t0,0x81828384\nsw $t0,-4($sp)\nlw $a0,-4($sp)", 0x81828384);
        leaves("li $t0,0x8183ff85\nsw $t0,-4($sp)\nlhu $a0,-2($sp)", 0x8183);
        leaves("li $t0,0x8183ff85\nsw $t0,-4($sp)\nlhu $a0,-4($sp)", 0xFF85);
        leaves("li $t0,0x8183ff85\nsw $t0,-4($sp)\nlh $a0,-2($sp)", (short) 0x8183);
        leaves("li $t0,0x8183ff85\nsw $t0,-4($sp)\nlbu $a0,-4($sp)", 0x85);
        leaves("li $t0,0x01020304\nsw $t0,-4($sp)\nlb $a0,-4($sp)", 4);
        for (int k = 0; k < 4; k++) {
            int shift = 8 * k;
            leaves("li $t0,0x11223344\nsw $t0,-4($sp)\nli $t1,0xffffffaa\nsb $t1," + (k - 4) + "($sp)\nlw $a0,-4($sp)", 0x11223344 & ~(255 << shift) | 0xAA << shift);
        }
        leaves("li $t0,0x11223344\nsw $t0,-4($sp)\nli $t1,0xffffaabb\nsh $t1,-4($sp)\nlw $a0,-4($sp)", 0x1122AABB);
        leaves("li $t0,0x11223344\nsw $t0,-4($sp)\nli $t1,0xffffaabb\nsh $t1,-2($sp)\nlw $a0,-4($sp)", 0xAABB3344);
        leaves("lw $a0,x\n.data\n.byte 1,2,3\n.align 2\nx: .word 0x12345678\n.text", 0x12345678);
        leaves("lb $a0,x+1\nlbu $t1,x+1\naddu $a0,$a0,$t1\n.data\nx: .byte 1,255\n.text", 254);
        // memory is 0 but for the image
        leaves("lw $a0,-4($gp)\nlw $t0,0($gp)\naddu $a0,$a0,$t0\n.data\nx: .word 8\n.text\nlw $t0,x", 8);
    }

    /** 3: no multiple of its size, or not in memory; 4: text; each ahead of the next. The memory is 400 .. 1423. */
    private static void addresses() {
        String[] ones = {"lb", "lbu", "sb"};
        String[] halves = {"lh", "lhu", "sh"};
        String[] words = {"lw", "sw"};
        for (String one : ones) {
            stops(one + " $t0,1424($zero)", 3, 1424);
            stops(one + " $t0,399($zero)", 3, 399);
            stops(one + " $t0,400($zero)", 4, 400);
            stops(one + " $t0,-1($zero)", 3, -1);
            leaves("li $a0,5\n" + one + " $t0,1423($zero)", 5);
        }
        for (String half : halves) {
            stops(half + " $t0,1424($zero)", 3, 1424);
            stops(half + " $t0,1423($zero)", 3, 1423);
            stops(half + " $t0,398($zero)", 3, 398);
            stops(half + " $t0,401($zero)", 3, 401);
            stops(half + " $t0,402($zero)", 4, 402);
            leaves("li $a0,5\n" + half + " $t0,1422($zero)", 5);
        }
        for (String word : words) {
            stops(word + " $t0,1424($zero)", 3, 1424);
            for (int past = 1; past < 4; past++) {
                stops(word + " $t0," + (1416 + past) + "($zero)", 3, 1416 + past);
                stops(word + " $t0," + (400 + past) + "($zero)", 3, 400 + past);
            }
            stops(word + " $t0,396($zero)", 3, 396);
            stops(word + " $t0,400($zero)", 4, 400);
            leaves("li $a0,5\n" + word + " $t0,1420($zero)", 5);
            stops("li $t1,0x80000000\n" + word + " $t0,0($t1)", 3, Integer.MIN_VALUE);
            stops("li $t1,0x7fffffff\n" + word + " $t0,1($t1)", 3, Integer.MIN_VALUE);
            stops("li $t1,0x80000000\n" + word + " $t0,-4($t1)", 3, Integer.MAX_VALUE - 3);
            leaves("li $a0,5\nli $t1,-100\n" + word + " $t0,1500($t1)", 5);
        }
        // the end of text: main is 12 bytes, _start 20
        stops("lw $t0,428($zero)" + LEAVE, 4, 428);
        leaves("lw $a0,432($zero)", 0);
        stops("sb $t0,431($zero)" + LEAVE, 4, 431);
        leaves("sb $t0,432($zero)", 0);
        stops("sh $t0,430($zero)" + LEAVE, 4, 430);
        leaves("sh $t0,432($zero)", 0);
    }

    /** Text is all from BASE to the end of the last reached section of text, also what stands between sections. */
    private static void endOfText() {
        ToolMill mill = linked("la $t0,main\nlw $a0,0($t0)");
        Due.is("end of text", () -> mill.state(10), 400 + 12 + 20);
        Due.is("end of the image", () -> mill.state(9), 400 + 12 + 20);
        // the runtime's _traps is the last section of text if it is reached
        ToolMill traps = linked("b _room\n.data\nx: .word 1");
        Due.is("end of text with _traps", () -> traps.state(10), 400 + 8 + 20 + 12);
        traps.run(100);
        Due.is("break 3", () -> traps.state(1), 3);
        // the space that an alignment leaves is text, too
        stops("nop\n.text q\n.align 4\nx: nop\n.text\nlb $t0,x-1", 4, 400 + 16 - 1);
        stops(".noreorder\nla $t0,x-4\njr $t0\nnop\nnop\n.text q\n.align 4\nx: break 7", 2, 7);
    }

    private static void fetches() {
        for (int past = 1; past < 4; past++) {
            stops("li $t0," + (400 + past) + "\njr $t0", 3, 400 + past);
        }
        stops("li $t0,396\njr $t0", 3, 396);
        stops("jr $zero", 3, 0);
        stops("li $t0,1424\njr $t0", 3, 1424);
        stops("li $t0,1420\njr $t0", 4, 1420);
        stops("li $t0,-4\njr $t0", 3, -4);
        stops("li $t0,0x80000000\njr $t0", 3, Integer.MIN_VALUE);
        stops("move $t0,$gp\njr $t0", 4, 400 + 12 + 20);
        stops("j main-400\n", 3, 0);
        stops("j main+1024\n", 3, 1424);
        stops("j main+1020\n", 4, 1420);
        stops("b x+1024\n.text q\nx: nop", 3, 400 + 8 + 1024);
        // a fetch goes ahead of all: the word there is not looked at
        stops("la $t0,x\njr $t0\n.data\nx: .word 1", 4, 400 + 16 + 20);
    }

    private static void words() {
        int[] wrong = {
            0x00000001, 0x00000005, 0x0000000A, 0x0000000E, 0x00000014, 0x0000001C, 0x00000020, 0x00000022, 0x00000028, 0x0000003F,
            0x00200000, 0x00200002, 0x00200003, 0x00000044, 0x00000046, 0x00000047, 0x00010008, 0x00000808, 0x00000048, 0x0000F009, 0x00000009, 0x0001F809, 0x0000F849,
            0x0000004C, 0x0001000C, 0x0020000C, 0x0000080C, 0x00200010, 0x00010010, 0x00000050, 0x00010011, 0x00000811, 0x00000051, 0x00200012, 0x00010013, 0x00000813,
            0x00000818, 0x00000058, 0x0000081B, 0x00000061, 0x00000063, 0x00000064, 0x00000065, 0x00000066, 0x00000067, 0x0000006A, 0x0000006B,
            0x04020000, 0x040F0000, 0x04120000, 0x041F0000, 0x18010000, 0x1C010000, 0x20000000, 0x3C200000, 0x40000000, 0x50000000, 0x7C000000,
            0x88000000, 0x98000000, 0x9C000000, 0xA8000000, 0xB0000000, 0xBC000000, 0xC0000000, 0xFFFFFFFF,
        };
        for (int word : wrong) {
            stops(".word " + word, 5, word);
            Due.same("listing of " + word, Due.listing(SHARED, word), ".word " + word + "\n");
        }
        // in break the ten bits behind its number are free
        stops(".word 0x0000ffcd", 2, 0);
        stops(".word 0x03ffffcd", 2, 1023);
        stops(".word 0x0001004d", 2, 1);
        stops("break 0", 2, 0);
        stops("break 1023", 2, 1023);
    }

    /** All 26 bits of a jump, at bases whose bits are 0 and 1 in turn. */
    private static void farBases() {
        for (int base : new int[] {0, 0x5555554, 0xAAAAAA8, 200000000, 0x8000000 - 16, 0x4000000 - 8}) {
            ToolMill mill = new ToolMill();
            Due.assemble(mill, MAIN + "jal f\nla $t0,f\njalr $t0\nlw $t1,x\naddiu $t1,$t1,1\nsw $t1,x\nj g\n.text f\nf: addiu $s0,$s0,1\njr $ra\n.text g\nnop\ng: lw $a0,x\naddu $a0,$a0,$s0" + LEAVE + "\n.data\nx: .word 40");
            Due.is("link() at " + base, () -> mill.link(base, 512) > 0 ? 1 : 0, 1);
            mill.run(100);
            Due.is("OUTCOME at " + base, () -> mill.state(0), 1);
            Due.is("number at " + base, () -> mill.state(1), 43);
        }
    }

    private static void syscalls() {
        for (int wish : new int[] {0, 2, 3, 4, 6, 9, 11, -1, 65537, 0x80000005, 256 + 10}) {
            stops("li $v0," + wish + "\nsyscall", 5, wish);
        }
        for (int value : VALUES) {
            stops("li $v0,10\nli $a0," + value + "\nsyscall", 1, value);
        }
        ToolMill mill = linked("li $v0,5\nli $a0,44\nsyscall\nmove $a1,$v0\nli $v0,1\nsyscall\nli $v0,5\nsyscall\nmove $a0,$v0" + LEAVE);
        mill.run(20000);
        Due.is("without an input it is 0", () -> mill.register(5), 0);
        Due.is("$a0 is put out", () -> mill.output(0), 44);
        Due.is("again 0", () -> mill.state(1), 0);
        Due.is("no input is taken", () -> mill.state(8), 0);
    }

    /** Nothing of what stops it is done; PC stays on it. */
    private static void stopped() {
        ToolMill mill = linked("li $v0,1\nli $a0,3\nsyscall\nlw $t0,2($sp)");
        Due.is("steps up to the stop", () -> mill.run(20000), 2 + 3);
        int[] due = {3, 1426, 412, 416, 0, 0, 5, 1, 0, 436, 436};
        for (int what = 0; what < due.length; what++) {
            int k = what;
            Due.is("state(" + k + ")", () -> mill.state(k), due[k]);
        }
        Due.is("$t0 is as it was", () -> mill.register(8), 0);
        Due.is("run(0) behind the stop", () -> mill.run(0), Due.ILLEGAL_STATE);
        // in a slot: NEXT PC is the branch's target
        ToolMill slot = linked(".noreorder\nb main\nbreak 6");
        Due.is("one step", () -> slot.run(5), 3);
        Due.is("PC", () -> slot.state(2), 404);
        Due.is("NEXT PC", () -> slot.state(3), 400);
        Due.is("break's number", () -> slot.state(1), 6);
        // a fetch that fails behind a jump
        ToolMill far = linked(".noreorder\nli $t0,7\njr $t0\nnop");
        Due.is("steps", () -> far.run(100), 5);
        Due.is("PC", () -> far.state(2), 7);
        Due.is("NEXT PC", () -> far.state(3), 11);
        // div by 0 does not stop, a store that fails does not store
        ToolMill store = linked("li $t0,9\nsw $t0,-4($sp)\nsw $zero,-2($sp)");
        store.run(100);
        Due.is("the word is as it was", () -> store.word(1420), 9);
    }

    private static void steps() {
        ToolMill mill = linked("li $t0,1\nx: addiu $t0,$t0,1\nb x");
        Due.is("run(0)", () -> mill.run(0), 0);
        Due.is("no step", () -> mill.state(6), 0);
        Due.is("run(1)", () -> mill.run(1), 1);
        Due.is("PC in the slot", () -> mill.state(2), mill.section(6, 1, 3) + 4);
        Due.is("NEXT PC is main", () -> mill.state(3), 400);
        Due.is("run(20000)", () -> mill.run(20000), 20000);
        Due.is("steps in all", () -> mill.state(6), 20001);
        Due.is("it goes on", () -> mill.state(0), 0);
        Due.is("its number is 0", () -> mill.state(1), 0);
        Due.is("link() again", () -> mill.link(400, 1024), 12 + 20);
        Due.is("no steps then", () -> mill.state(6), 0);
        Due.is("$t0 is 0 then", () -> mill.register(8), 0);
        // what stops it is no step: exactly up to it, it has not stopped
        ToolMill stop = linked("break 5");
        Due.is("run(2)", () -> stop.run(2), 2);
        Due.is("it goes on", () -> stop.state(0), 0);
        Due.is("run(0)", () -> stop.run(0), 0);
        Due.is("it still goes on", () -> stop.state(0), 0);
        Due.is("run(1)", () -> stop.run(1), 0);
        Due.is("it has stopped", () -> stop.state(0), 2);
        Due.is("steps in all", () -> stop.state(6), 2);
        Due.is("run(1)", () -> stop.run(1), Due.ILLEGAL_STATE);
    }

    private static void beginning() {
        ToolMill mill = linked("li $t0,5\nmthi $t0\nmtlo $t0\nsw $t0,-4($sp)\nli $v0,1\nsyscall\nbreak 1");
        mill.run(1000);
        Due.is("HI", () -> mill.state(4), 5);
        Due.is("LO", () -> mill.state(5), 5);
        Due.is("link() again", () -> mill.link(400, 1024), 48);
        int start = 400 + 28;
        int[] due = {0, 0, start, start + 4, 0, 0, 0, 0, 0, 448, 448};
        for (int what = 0; what < due.length; what++) {
            int k = what;
            Due.is("state(" + k + ") at the beginning", () -> mill.state(k), due[k]);
        }
        for (int r = 0; r < 32; r++) {
            int k = r;
            Due.is("register " + k + " at the beginning", () -> mill.register(k), k == 28 ? 448 : k == 29 ? 1424 : 0);
        }
        Due.is("memory is 0", () -> mill.word(1420), 0);
        Due.is("no output", () -> mill.output(0), Due.NO_INDEX);
    }

    private static void inputsAndOutputs() {
        ToolMill mill = new ToolMill();
        Due.assemble(mill, MAIN + "x: li $v0,5\nsyscall\nmove $a0,$v0\nli $v0,1\nsyscall\nb x");
        for (int i = 1; i <= 3; i++) {
            int k = i;
            Due.is("input " + i, () -> mill.input(100 + k), i);
        }
        mill.link(0, 512);
        Due.is("to come", () -> mill.state(8), 3);
        mill.run(2 + 7 * 2);
        Due.is("to come behind two", () -> mill.state(8), 1);
        Due.is("a fourth", () -> mill.input(104), 4);
        Due.is("to come with it", () -> mill.state(8), 2);
        mill.run(7 * 3);
        Due.is("none to come", () -> mill.state(8), 0);
        int[] due = {101, 102, 103, 104, 0};
        for (int i = 0; i < due.length; i++) {
            int k = i;
            Due.is("output " + i, () -> mill.output(k), due[k]);
        }
        Due.is("a fifth", () -> mill.input(105), 5);
        mill.run(7);
        Due.is("output 5", () -> mill.output(5), 105);
        mill.run(7 * 194);
        Due.is("200 outputs", () -> mill.state(7), 200);
        Due.is("the 200th", () -> mill.output(199), 0);
        Due.is("no 201st", () -> mill.output(200), Due.NO_INDEX);
        mill.run(7);
        Due.is("201 outputs", () -> mill.state(7), 201);
        Due.is("the 201st is not kept", () -> mill.output(200), Due.NO_INDEX);
        Due.is("the first one is", () -> mill.output(0), 101);
        mill.link(0, 512);
        Due.is("all inputs to come", () -> mill.state(8), 5);
        Due.is("no outputs", () -> mill.output(0), Due.NO_INDEX);
        mill.run(2 + 7);
        Due.is("the first again", () -> mill.output(0), 101);
    }

    /** Promise 21: each instruction's text. */
    private static void listing() {
        String[] texts = {
            "addu $t0,$t1,$t2", "subu $zero,$at,$v0", "and $v1,$a0,$a1", "or $a2,$a3,$s0", "xor $s1,$s2,$s3", "nor $s4,$s5,$s6", "slt $s7,$t8,$t9", "sltu $k0,$k1,$gp",
            "sll $sp,$fp,0", "srl $ra,$t3,31", "sra $t4,$t5,16", "sllv $t6,$t7,$t0", "srlv $t0,$t1,$t2", "srav $t0,$t1,$t2", "mult $t0,$t1", "multu $t0,$t1", "div $t0,$t1", "divu $t0,$t1",
            "mfhi $t0", "mflo $t1", "mthi $t2", "mtlo $t3", "jr $ra", "jalr $t9", "syscall", "break 0", "break 1023", "addiu $t0,$t1,-32768", "addiu $t0,$t1,32767", "slti $t0,$t1,-1", "sltiu $t0,$t1,-1",
            "andi $t0,$t1,65535", "ori $t0,$t1,32768", "xori $t0,$t1,0", "lui $t0,65535", "lb $t0,-32768($t1)", "lh $t0,32767($t1)", "lw $t0,0($t1)", "lbu $t0,1($t1)", "lhu $t0,2($t1)",
            "sb $t0,-1($t1)", "sh $t0,-2($t1)", "sw $t0,-4($t1)",
        };
        for (String text : texts) {
            ToolMill mill = linked(".noreorder\n" + text);
            Due.same("listing of " + text, Due.listing(mill, mill.word(400)), text + "\n");
        }
        String[] turns = {"beq $t0,$t1,", "bne $t0,$t1,", "blez $t0,", "bgtz $t0,", "bltz $t0,", "bgez $t0,", "bltzal $t0,", "bgezal $t0,"};
        for (String turn : turns) {
            ToolMill mill = linked(".noreorder\n" + turn + "main+131072");
            Due.same("listing of " + turn, Due.listing(mill, mill.word(400)), turn + "32767\n");
            linked(".noreorder\n" + turn + "main-131068");
            Due.same("listing of " + turn, Due.listing(mill, mill.word(400)), turn + "-32768\n");
        }
        ToolMill mill = new ToolMill();
        Due.same("j", Due.listing(mill, 0x08000000), "j 0\n");
        Due.same("j", Due.listing(mill, 0x0BFFFFFF), "j 67108863\n");
        Due.same("jal", Due.listing(mill, 0x0C000001), "jal 1\n");
        Due.same("greatest int that is none", Due.listing(mill, Integer.MAX_VALUE), ".word 2147483647\n");
        Due.same("-1", Due.listing(mill, -1), ".word -1\n");
        Due.same("the least int is one", Due.listing(mill, Integer.MIN_VALUE), "lb $zero,0($zero)\n");
        Due.same("break with free bits", Due.listing(mill, 0x0000FFCD), "break 0\n");
        Due.is("first sign", () -> mill.listing(12, 0), (int) 's');
        Due.is("its line end", () -> mill.listing(12, 7), 10);
        Due.is("behind it", () -> mill.listing(12, 8), -1);
        Due.is("far behind it", () -> mill.listing(12, Integer.MAX_VALUE), -1);
        Due.is("k below 0", () -> mill.listing(12, -1), Due.NO_INDEX);
    }

    public static void main(String[] args) {
        arithmetic();
        halves();
        registers();
        branches();
        memory();
        addresses();
        endOfText();
        fetches();
        words();
        farBases();
        syscalls();
        stopped();
        steps();
        beginning();
        inputsAndOutputs();
        listing();
        Due.finish("ToolMillEdgesMachine");
    }
}
