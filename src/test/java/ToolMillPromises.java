/** Each promise of the document: ordinary inputs, edges, wrong inputs. */
public final class ToolMillPromises {
    private static final String MAIN = ".globl main\nmain: ";

    private ToolMillPromises() {
    }

    private static int signs(String four) {
        int packed = 0;
        for (int k = 0; k < four.length(); k++) {
            packed |= four.charAt(k) << 8 * k;
        }
        return packed;
    }

    /** A mill with one unit in assembly that is linked at 400 with 1024 bytes. */
    private static ToolMill linked(String text) {
        ToolMill mill = new ToolMill();
        Due.is("assemble() of " + text, () -> Due.assemble(mill, text), 0);
        Due.is("link(400, 1024) of " + text + " is at least 0", () -> mill.link(400, 1024) >= 0 ? 1 : 0, 1);
        return mill;
    }

    private static void newObject() {
        ToolMill mill = new ToolMill();
        Due.is("1: NONE", () -> ToolMill.NONE, -1);
        Due.is("1: put on an empty text", () -> mill.put('x'), 1);
        Due.is("1: no units", () -> mill.unit(0, 0), Due.NO_ELEMENT);
        Due.is("1: nothing linked", () -> mill.state(0), Due.ILLEGAL_STATE);
        Due.is("1: no meaning", () -> mill.meant(0), Due.ILLEGAL_STATE);
        Due.is("1: no inputs", () -> mill.input(1), 1);
        Due.is("1: no fault", () -> mill.fault(0), 0);
        Due.is("1: no fault's place", () -> mill.fault(1), -1);
        Due.is("1: no fault's unit", () -> mill.fault(2), -1);
    }

    private static void put() {
        ToolMill mill = new ToolMill();
        Due.is("2: four signs", () -> mill.put(signs("var ")), 4);
        Due.is("2: zeros are left out", () -> mill.put(0x3B000061), 6);
        Due.is("2: nothing but zeros", () -> mill.put(0), 6);
        Due.is("2: line end", () -> mill.put(10), 7);
        Due.is("2: a sign below 32", () -> mill.put(31), Due.ILLEGAL_ARGUMENT);
        Due.is("2: a sign above 126", () -> mill.put(127 << 16), Due.ILLEGAL_ARGUMENT);
        Due.is("2: a sign of 255", () -> mill.put(0xFF000020), Due.ILLEGAL_ARGUMENT);
        Due.is("2: the edges 32 and 126", () -> mill.put(32 | 126 << 8), 9);
        for (int i = 9; i < 2997; i += 4) {
            mill.put(signs("    "));
        }
        Due.is("2: too many", () -> mill.put(signs("    ")), Due.UNSUPPORTED);
        Due.is("2: a wrong sign goes ahead of too many", () -> mill.put(signs("   ") | 1 << 24), Due.ILLEGAL_ARGUMENT);
        Due.is("2: just full", () -> mill.put(signs("   ")), 3000);
        Due.is("2: nothing fits always", () -> mill.put(0), 3000);
        Due.is("2: one too many", () -> mill.put(' '), Due.UNSUPPORTED);
    }

    private static int end(ToolMill mill, int n) {
        mill.end(n);
        return mill.put(0);
    }

    private static void end() {
        ToolMill mill = new ToolMill();
        Due.write(mill, "var a;var b;");
        Due.is("3: below 0", () -> end(mill, -1), Due.ILLEGAL_ARGUMENT);
        Due.is("3: above", () -> end(mill, 13), Due.ILLEGAL_ARGUMENT);
        Due.is("3: all", () -> end(mill, 12), 12);
        Due.is("3: half", () -> end(mill, 6), 6);
        Due.is("3: source of the rest", mill::source, 0);
        Due.is("3: its labels", () -> mill.unit(0, 2), 1);
        Due.is("3: none", () -> end(mill, 0), 0);
    }

    private static int forget(ToolMill mill) {
        mill.forget();
        return 0;
    }

    private static void units() {
        ToolMill mill = new ToolMill();
        Due.write(mill, "proc main(){return 7;}");
        Due.is("4: first unit", mill::source, 0);
        Due.is("4: the text stays", () -> mill.put(0), 22);
        Due.is("4: mean", () -> mill.mean(9), 1);
        Due.is("4: link", () -> mill.link(0, 512) > 0 ? 1 : 0, 1);
        Due.is("4: a fault", () -> Due.source(mill, "var 1;"), -1);
        Due.is("4: its kind", () -> mill.fault(0), 1);
        Due.is("4: its place", () -> mill.fault(1), 4);
        Due.is("4: its unit", () -> mill.fault(2), -1);
        Due.is("4: it is still linked", () -> mill.state(0), 0);
        Due.is("4: the meaning is still there", () -> mill.meant(1), 7);
        Due.is("4: second unit", () -> Due.source(mill, "var b;"), 1);
        Due.is("4: nothing is linked then", () -> mill.state(0), Due.ILLEGAL_STATE);
        Due.is("4: no meaning is there then", () -> mill.meant(0), Due.ILLEGAL_STATE);
        Due.is("5: assemble", () -> Due.assemble(mill, "x:nop"), 2);
        Due.is("5: a fault", () -> Due.assemble(mill, "\nx: nop x"), -1);
        Due.is("5: its kind", () -> mill.fault(0), 1);
        Due.is("5: its line", () -> mill.fault(1), 1);
        Due.is("5: no unit more", () -> mill.unit(3, 0), Due.NO_ELEMENT);
        Due.is("5: empty text", () -> Due.assemble(mill, ""), 3);
        Due.is("7: no fault then", () -> mill.fault(0) + mill.fault(1) + mill.fault(2), -2);
        Due.is("5: fifth", mill::assemble, 4);
        Due.is("5: sixth", mill::source, 5);
        Due.is("5: seventh", mill::assemble, Due.ILLEGAL_STATE);
        Due.is("4: seventh", mill::source, Due.ILLEGAL_STATE);
        Due.is("7: another what", () -> mill.fault(3), Due.ILLEGAL_ARGUMENT);
        Due.is("7: another what", () -> mill.fault(-1), Due.ILLEGAL_ARGUMENT);
        Due.is("6: forget", () -> forget(mill), 0);
        Due.is("6: no units", () -> mill.unit(0, 0), Due.NO_ELEMENT);
        Due.is("6: the runtime stays", () -> mill.unit(6, 0), 0);
        Due.is("6: no units to link", () -> mill.link(0, 512), Due.ILLEGAL_STATE);
        Due.is("6: a first unit again", mill::assemble, 0);
    }

    private static void forgetLinked() {
        ToolMill mill = new ToolMill();
        Due.source(mill, "proc main(){}");
        mill.link(0, 512);
        mill.mean(5);
        mill.forget();
        Due.is("6: nothing is linked", () -> mill.register(0), Due.ILLEGAL_STATE);
        Due.is("6: no meaning is there", () -> mill.said(0), Due.ILLEGAL_STATE);
    }

    private static void linkFaults() {
        ToolMill mill = new ToolMill();
        Due.assemble(mill, "nop\n.globl x\nx: jal y");
        Due.is("7: link without main", () -> mill.link(0, 512), -1);
        Due.is("7: kind 2", () -> mill.fault(0), 2);
        Due.is("7: line of the runtime", () -> mill.fault(1), 2);
        Due.is("7: unit of the runtime", () -> mill.fault(2), 6);
        Due.assemble(mill, ".globl x\n" + MAIN + "\nx: jr $ra\n.space 4096");
        Due.is("7: two of a name", () -> mill.link(0, 512), -1);
        Due.is("7: kind 1", () -> mill.fault(0), 1);
        Due.is("7: line of the second", () -> mill.fault(1), 3);
        Due.is("7: unit of the second", () -> mill.fault(2), 1);
        mill.forget();
        Due.assemble(mill, MAIN + "jr $ra\n.kind main,4");
        Due.is("7: wanted of another kind", () -> mill.link(0, 512), -1);
        Due.is("7: kind 3", () -> mill.fault(0), 3);
        Due.is("7: line of the .want", () -> mill.fault(1), 13);
        Due.is("7: unit of the .want", () -> mill.fault(2), 6);
        mill.forget();
        Due.assemble(mill, MAIN + "jr $ra\n.space 229");
        Due.is("7: 257 bytes leave not enough", () -> mill.link(0, 512), -1);
        Due.is("7: kind 4", () -> mill.fault(0), 4);
        Due.is("7: no line", () -> mill.fault(1), -1);
        Due.is("7: no unit", () -> mill.fault(2), -1);
        mill.forget();
        Due.assemble(mill, MAIN + "jr $ra\n.space 228");
        Due.is("15: 256 bytes are just left", () -> mill.link(0, 512), 256);
        mill.forget();
        Due.assemble(mill, MAIN + "nop\nj main+2");
        Due.is("7: a jump to no multiple of 4", () -> mill.link(0, 512), -1);
        Due.is("7: kind 5", () -> mill.fault(0), 5);
        Due.is("7: its line", () -> mill.fault(1), 2);
        Due.is("7: its unit", () -> mill.fault(2), 0);
    }

    private static void typed() {
        ToolMill mill = new ToolMill();
        Due.source(mill, "var a;");
        Due.assemble(mill, "nop");
        Due.same("8: text", Due.typed(mill, 0), ".data a\n.globl a\n.kind a,1\na: .word 0\n");
        Due.is("8: last sign", () -> mill.typed(0, 37), 10);
        Due.is("8: behind the end", () -> mill.typed(0, 38), -1);
        Due.is("8: far behind the end", () -> mill.typed(0, Integer.MAX_VALUE), -1);
        Due.is("8: k below 0", () -> mill.typed(0, -1), Due.NO_ELEMENT);
        Due.is("8: a unit in assembly", () -> mill.typed(1, 0), Due.NO_ELEMENT);
        Due.is("8: the runtime", () -> mill.typed(6, 0), Due.NO_ELEMENT);
        Due.is("8: no unit", () -> mill.typed(2, 0), Due.NO_ELEMENT);
        Due.is("8: no unit", () -> mill.typed(-1, 0), Due.NO_ELEMENT);
        mill.forget();
        Due.source(mill, "");
        Due.is("8: an empty unit", () -> mill.typed(0, 0), -1);
    }

    private static void objects() {
        ToolMill mill = new ToolMill();
        Due.source(mill, "var a;proc f(){a=1;}");
        Due.assemble(mill, ".data d\n.align 4\n.byte 1\nx: .word x-x\n");
        Due.assemble(mill, ".data d\n.align 4\n.byte 1,-1\n.align 2\ny.2: .word q+5\n.kind y.2,9\n.globl y.2\nz:");
        int[] first = {1, 3, 3, 3, 52};
        for (int what = 0; what < 5; what++) {
            int k = what;
            Due.is("9: unit(0, " + k + ")", () -> mill.unit(0, k), first[k]);
        }
        Due.is("9: in assembly", () -> mill.unit(1, 0), 0);
        Due.is("9: another what", () -> mill.unit(0, 5), Due.ILLEGAL_ARGUMENT);
        Due.is("9: another what", () -> mill.unit(0, -1), Due.ILLEGAL_ARGUMENT);
        Due.is("9: no unit goes ahead", () -> mill.unit(2, 9), Due.NO_ELEMENT);
        Due.is("9: the runtime's bytes", () -> mill.unit(6, 4), 32);
        Due.is("9: between the units and the runtime", () -> mill.unit(5, 0), Due.NO_ELEMENT);
        Due.is("10: data", () -> mill.section(1, 1, 0), 1);
        Due.is("10: bytes", () -> mill.section(1, 1, 1), 8);
        Due.is("10: alignment", () -> mill.section(1, 1, 2), 16);
        Due.is("10: address", () -> mill.section(1, 1, 3), -1);
        Due.is("10: first section", () -> mill.section(1, 0, 2), 4);
        Due.is("10: no such section", () -> mill.section(1, 2, 0), Due.NO_ELEMENT);
        Due.is("10: no such section", () -> mill.section(1, -1, 9), Due.NO_ELEMENT);
        Due.is("10: no such unit", () -> mill.section(3, 0, 0), Due.NO_ELEMENT);
        Due.is("10: another what", () -> mill.section(1, 0, 4), Due.ILLEGAL_ARGUMENT);
        Due.is("11: byte", () -> mill.byteOf(1, 1, 1), 255);
        Due.is("11: last byte", () -> mill.byteOf(1, 1, 7), 0);
        Due.is("11: behind", () -> mill.byteOf(1, 1, 8), Due.NO_ELEMENT);
        Due.is("11: sign of the name", () -> mill.byteOf(1, 1, -1), (int) 'd');
        Due.is("11: behind the name", () -> mill.byteOf(1, 1, -2), Due.NO_ELEMENT);
        Due.is("11: last sign of text", () -> mill.byteOf(1, 0, -4), (int) 't');
        Due.is("11: far ahead", () -> mill.byteOf(1, 0, Integer.MIN_VALUE), Due.NO_ELEMENT);
        Due.is("11: no section", () -> mill.byteOf(1, 2, -1), Due.NO_ELEMENT);
        Due.is("11: no unit", () -> mill.byteOf(4, 0, -1), Due.NO_ELEMENT);
        labels(mill);
        relocations(mill);
    }

    private static void labels(ToolMill mill) {
        Due.is("12: section", () -> mill.label(1, 0, 0), 1);
        Due.is("12: place", () -> mill.label(1, 0, 1), 4);
        Due.is("12: global", () -> mill.label(1, 0, 2), 1);
        Due.is("12: kind", () -> mill.label(1, 0, 3), 9);
        Due.is("12: place of the second", () -> mill.label(1, 1, 1), 8);
        Due.is("12: second is not global", () -> mill.label(1, 1, 2), 0);
        Due.is("12: second has no kind", () -> mill.label(1, 1, 3), 0);
        Due.is("12: sign", () -> mill.label(1, 0, 12), (int) '2');
        Due.is("12: behind its name", () -> mill.label(1, 0, 13), -1);
        Due.is("12: far behind its name", () -> mill.label(1, 0, Integer.MAX_VALUE), -1);
        Due.is("12: another what", () -> mill.label(1, 0, 4), Due.ILLEGAL_ARGUMENT);
        Due.is("12: another what", () -> mill.label(1, 0, 9), Due.ILLEGAL_ARGUMENT);
        Due.is("12: another what", () -> mill.label(1, 0, -1), Due.ILLEGAL_ARGUMENT);
        Due.is("12: no label", () -> mill.label(1, 2, -1), Due.NO_ELEMENT);
        Due.is("12: no label", () -> mill.label(1, -1, 0), Due.NO_ELEMENT);
        Due.is("12: no unit", () -> mill.label(7, 0, 0), Due.NO_ELEMENT);
    }

    private static void relocations(ToolMill mill) {
        int[] due = {1, 4, 0, -1, 5, 4};
        for (int what = 0; what < due.length; what++) {
            int k = what;
            Due.is("13: relocation(1, 0, " + k + ")", () -> mill.relocation(1, 0, k), due[k]);
        }
        Due.is("13: name", () -> mill.relocation(1, 0, 10), (int) 'q');
        Due.is("13: behind its name", () -> mill.relocation(1, 0, 11), -1);
        Due.is("13: without a name", () -> mill.relocation(0, 1, 10), -1);
        Due.is("13: target", () -> mill.relocation(0, 1, 3), 1);
        Due.is("13: another what", () -> mill.relocation(1, 0, 6), Due.ILLEGAL_ARGUMENT);
        Due.is("13: another what", () -> mill.relocation(1, 0, -1), Due.ILLEGAL_ARGUMENT);
        Due.is("13: no relocation", () -> mill.relocation(1, 1, 0), Due.NO_ELEMENT);
        Due.is("13: no relocation", () -> mill.relocation(1, -1, 7), Due.NO_ELEMENT);
        Due.is("13: no unit", () -> mill.relocation(2, 0, 0), Due.NO_ELEMENT);
        Due.same("13: the runtime's", Due.relocations(mill, 6), "1 0 3 -1 0 2 main\n");
    }

    private static void inputs() {
        ToolMill mill = new ToolMill();
        Due.source(mill, "proc main(){out(in());out(in());out(in());}");
        mill.link(0, 1024);
        for (int i = 1; i <= 2; i++) {
            int k = i;
            Due.is("14: input", () -> mill.input(-k), k);
        }
        mill.run(20000);
        Due.is("14: first", () -> mill.output(0), -1);
        Due.is("14: second", () -> mill.output(1), -2);
        Due.is("14: none is 0", () -> mill.output(2), 0);
        Due.is("14: all are taken", () -> mill.state(8), 0);
        Due.is("14: the meaning takes them, too", () -> mill.mean(100) * 10 + mill.meant(4), 12);
        for (int i = 3; i <= 64; i++) {
            mill.input(i);
        }
        Due.is("14: one too many", () -> mill.input(0), Due.UNSUPPORTED);
        Due.is("14: to come", () -> mill.state(8), 62);
        mill.link(0, 1024);
        Due.is("14: all to come behind link()", () -> mill.state(8), 64);
    }

    private static void link() {
        ToolMill mill = new ToolMill();
        Due.is("15: no units go ahead", () -> mill.link(1, 1), Due.ILLEGAL_STATE);
        Due.assemble(mill, ".text far\nnop\n" + ".text near\n" + MAIN + "la $t0,w\nsw $t0,w\njr $ra\n.data\n.align 3\nw: .word main,w+65536,0\n.byte 7");
        Due.is("15: base no multiple of 4", () -> mill.link(2, 512), Due.ILLEGAL_ARGUMENT);
        Due.is("15: base below 0", () -> mill.link(-4, 512), Due.ILLEGAL_ARGUMENT);
        Due.is("15: base too great", () -> mill.link(200000004, 512), Due.ILLEGAL_ARGUMENT);
        Due.is("15: memory no multiple of 4", () -> mill.link(0, 514), Due.ILLEGAL_ARGUMENT);
        Due.is("15: memory too small", () -> mill.link(0, 508), Due.ILLEGAL_ARGUMENT);
        Due.is("15: memory too great", () -> mill.link(0, 65540), Due.ILLEGAL_ARGUMENT);
        Due.is("15: greatest of both", () -> mill.link(200000000, 65536), 56);
        Due.is("15: bytes of the image", () -> mill.link(40000, 512), 56);
        Due.is("15: what is not reached has no address", () -> mill.section(0, 1, 3), -1);
        Due.is("15: what is reached has one", () -> mill.section(0, 2, 3), 40000);
        Due.is("15: the runtime behind it", () -> mill.section(6, 1, 3), 40020);
        Due.is("15: _traps is not reached", () -> mill.section(6, 2, 3), -1);
        Due.is("15: data is aligned", () -> mill.section(0, 3, 3), 40040);
        Due.is("15: end of text", () -> mill.state(10), 40040);
        Due.is("15: end of the image", () -> mill.state(9), 40056);
        Due.is("15: a word is the address", () -> mill.word(40040), 40000);
        Due.is("15: a word with a number", () -> mill.word(40044), 40040 + 65536);
        Due.same("15: %hi is rounded", Due.listing(mill, mill.word(40000)), "lui $t0,1\n");
        Due.same("15: %lo is signed", Due.listing(mill, mill.word(40004)), "addiu $t0,$t0,-25496\n");
        Due.same("15: jal", Due.listing(mill, mill.word(40020)), "jal 10000\n");
        Due.is("15: the object stays as it was", () -> mill.byteOf(0, 3, 0), 0);
        Due.is("15: a fault unlinks", () -> Due.assemble(mill, ".globl main\nmain:") + mill.link(0, 512), 0);
        Due.is("15: nothing is linked then", () -> mill.run(0), Due.ILLEGAL_STATE);
    }

    private static void run() {
        ToolMill mill = linked(MAIN + "li $a0,5\nli $v0,1\nsyscall\nli $v0,9\njr $ra");
        Due.is("16: below 0", () -> mill.run(-1), Due.ILLEGAL_ARGUMENT);
        Due.is("16: too many", () -> mill.run(20001), Due.ILLEGAL_ARGUMENT);
        Due.is("16: none", () -> mill.run(0), 0);
        Due.is("16: three steps", () -> mill.run(3), 3);
        Due.is("17: PC", () -> mill.state(2), 404);
        Due.is("17: NEXT PC", () -> mill.state(3), 408);
        Due.is("17: steps", () -> mill.state(6), 3);
        Due.is("16: until it stops", () -> mill.run(20000), 6);
        Due.is("16: it has stopped", () -> mill.run(0), Due.ILLEGAL_STATE);
        Due.is("17: OUTCOME", () -> mill.state(0), 1);
        Due.is("17: its number", () -> mill.state(1), 9);
        Due.is("17: PC stays", () -> mill.state(2), 420 + 16);
        Due.is("17: NEXT PC stays", () -> mill.state(3), 420 + 20);
        Due.is("17: steps", () -> mill.state(6), 9);
        Due.is("17: outputs", () -> mill.state(7), 1);
        Due.is("17: another what", () -> mill.state(11), Due.ILLEGAL_ARGUMENT);
        Due.is("17: another what", () -> mill.state(-1), Due.ILLEGAL_ARGUMENT);
        Due.is("18: $zero", () -> mill.register(0), 0);
        Due.is("18: $gp is the image's end", () -> mill.register(28), mill.state(9));
        Due.is("18: $sp is memory's end", () -> mill.register(29), 1424);
        Due.is("18: $ra", () -> mill.register(31), 428);
        Due.is("18: no register", () -> mill.register(32), Due.ILLEGAL_ARGUMENT);
        Due.is("18: no register", () -> mill.register(-1), Due.ILLEGAL_ARGUMENT);
        Due.is("19: first word", () -> mill.word(400), 0x24040005);
        Due.is("19: last word", () -> mill.word(1420), 0);
        Due.is("19: behind memory", () -> mill.word(1424), Due.NO_INDEX);
        Due.is("19: ahead of memory", () -> mill.word(396), Due.NO_INDEX);
        Due.is("19: no multiple of 4", () -> mill.word(402), Due.NO_INDEX);
        Due.is("19: far", () -> mill.word(Integer.MIN_VALUE), Due.NO_INDEX);
        Due.is("20: output", () -> mill.output(0), 5);
        Due.is("20: none such", () -> mill.output(1), Due.NO_INDEX);
        Due.is("20: none such", () -> mill.output(-1), Due.NO_INDEX);
        ToolMill bare = new ToolMill();
        Due.is("16: nothing linked", () -> bare.run(-1), Due.ILLEGAL_STATE);
        Due.is("17: nothing linked", () -> bare.state(-1), Due.ILLEGAL_STATE);
        Due.is("18: nothing linked", () -> bare.register(-1), Due.ILLEGAL_STATE);
        Due.is("19: nothing linked", () -> bare.word(1), Due.ILLEGAL_STATE);
        Due.is("20: nothing linked", () -> bare.output(0), Due.ILLEGAL_STATE);
    }

    private static void outputsKept() {
        ToolMill mill = new ToolMill();
        Due.source(mill, "proc main(){var i;while(i<201){out(i);i=i+1;}}");
        mill.link(0, 1024);
        mill.run(20000);
        Due.is("20: how many", () -> mill.state(7), 201);
        Due.is("20: the last that is kept", () -> mill.output(199), 199);
        Due.is("20: not kept", () -> mill.output(200), Due.NO_INDEX);
        Due.is("24: ended", () -> mill.mean(20000), 1);
        Due.is("24: how many", () -> mill.meant(3), 201);
        Due.is("24: the last that is kept", () -> mill.said(199), 199);
        Due.is("24: not kept", () -> mill.said(200), Due.NO_INDEX);
    }

    /** How a program stops, and with which number. */
    private static void stops(String text, int outcome, int number) {
        ToolMill mill = linked(MAIN + text);
        mill.run(20000);
        Due.is("17: OUTCOME of " + text, () -> mill.state(0), outcome);
        Due.is("17: number of " + text, () -> mill.state(1), number);
    }

    private static void outcomes() {
        stops("break 1023", 2, 1023);
        stops(".noreorder\njr $t0\nli $v0,9", 3, 0);
        stops("li $t0,402\njr $t0", 3, 402);
        stops("li $t0,1424\njr $t0", 3, 1424);
        stops("li $t0,1420\njr $t0", 4, 1420);
        stops("lw $t0,2($sp)", 3, 1426);
        stops("sb $t0,0($sp)", 3, 1424);
        stops("lh $t0,-1($sp)", 3, 1423);
        stops("lb $t0,399($zero)", 3, 399);
        stops("lb $t0,400($zero)", 4, 400);
        stops("sw $t0,400($zero)", 4, 400);
        stops("lw $t0,401($zero)", 3, 401);
        stops(".word 1", 5, 1);
        stops(".word 0x0000f009", 5, 0x0000F009);
        stops("li $v0,77\nsyscall", 5, 77);
        stops("li $v0,10\nli $a0,-3\nsyscall", 1, -3);
        stops(".word 0x0003ffcd", 2, 3);
        stops("lui $t0,0x8000\nli $t1,-1\ndiv $t0,$t1\nmflo $a0\nli $v0,10\nsyscall", 1, Integer.MIN_VALUE);
        stops("li $t0,7\nmthi $t0\ndiv $t0,$zero\nmfhi $a0\nli $v0,10\nsyscall", 1, 7);
        stops("li $t0,-1\nmultu $t0,$t0\nmfhi $a0\nli $v0,10\nsyscall", 1, -2);
        stops("li $t0,-7\nli $t1,2\ndivu $t0,$t1\nmflo $a0\nli $v0,10\nsyscall", 1, 0x7FFFFFFC);
        stops("li $t0,-1\nli $t1,33\nsrlv $a0,$t0,$t1\nli $v0,10\nsyscall", 1, 0x7FFFFFFF);
        stops("li $t0,-2\nsb $t0,-3($sp)\nlh $a0,-4($sp)\nli $v0,10\nsyscall", 1, (short) 0xFE00);
        stops("sltiu $a0,$zero,-1\nli $v0,10\nsyscall", 1, 1);
        stops(".noreorder\nbltzal $zero,main\nmove $a0,$ra\nli $v0,10\nsyscall", 1, 408);
        stops(".noreorder\nb 1f\nb 2f\n1: li $a0,1\nbreak 9\n2: li $v0,10\nsyscall", 1, 1);
    }

    private static void listed(int word, String text) {
        ToolMill mill = new ToolMill();
        Due.same("21: listing of " + Integer.toHexString(word), Due.listing(mill, word), text + "\n");
    }

    private static void listing() {
        listed(0, "sll $zero,$zero,0");
        listed(0x01094006, "srlv $t0,$t1,$t0");
        listed(0x0320F809, "jalr $t9");
        listed(0x0320F009, ".word 52490249");
        listed(0x0000000C, "syscall");
        listed(0x0000004C, ".word 76");
        listed(0x03FFFFCD, "break 1023");
        listed(0x00004010, "mfhi $t0");
        listed(0x012A0018, "mult $t1,$t2");
        listed(0x012A0818, ".word 19531800");
        listed(0x25280000 | 0x8000, "addiu $t0,$t1,-32768");
        listed(0x3528FFFF, "ori $t0,$t1,65535");
        listed(0x3C08FFFF, "lui $t0,65535");
        listed(0x3D08FFFF, ".word 1023999999");
        listed(0xAFBFFFFC, "sw $ra,-4($sp)");
        listed(0x1109FFFF, "beq $t0,$t1,-1");
        listed(0x05110003, "bgezal $t0,3");
        listed(0x05120003, ".word 85065731");
        listed(0x0BFFFFFF, "j 67108863");
        listed(0xFFFFFFFF, ".word -1");
        listed(0x80000000, "lb $zero,0($zero)");
        ToolMill mill = new ToolMill();
        Due.is("21: k below 0", () -> mill.listing(0, -1), Due.NO_INDEX);
        Due.is("21: line end", () -> mill.listing(12, 7), 10);
        Due.is("21: behind it", () -> mill.listing(12, 8), -1);
        Due.is("21: far behind it", () -> mill.listing(12, Integer.MAX_VALUE), -1);
    }

    private static void meaning() {
        ToolMill mill = new ToolMill();
        Due.is("22: no units", () -> mill.mean(0), Due.ILLEGAL_STATE);
        Due.source(mill, "proc main(){out(5);k=f(3);return k;}");
        Due.is("22: names are missing", () -> mill.mean(-1), Due.ILLEGAL_STATE);
        Due.source(mill, "proc f(n){if(n){return n+f(n-1);}}var k;");
        Due.is("22: steps below 0", () -> mill.mean(-1), Due.ILLEGAL_ARGUMENT);
        Due.is("22: too many steps", () -> mill.mean(20001), Due.ILLEGAL_ARGUMENT);
        Due.is("23: no meaning yet", () -> mill.meant(9), Due.ILLEGAL_STATE);
        Due.is("24: no meaning yet", () -> mill.said(-1), Due.ILLEGAL_STATE);
        Due.is("22: one step too few", () -> mill.mean(9), 0);
        Due.is("23: nothing comes of it", () -> mill.meant(1), 0);
        Due.is("22: enough", () -> mill.mean(10), 1);
        int[] due = {1, 6, 10, 1, 0, 5};
        for (int what = 0; what < due.length; what++) {
            int k = what;
            Due.is("23: meant(" + k + ")", () -> mill.meant(k), due[k]);
        }
        Due.is("23: another what", () -> mill.meant(6), Due.ILLEGAL_ARGUMENT);
        Due.is("23: another what", () -> mill.meant(-1), Due.ILLEGAL_ARGUMENT);
        Due.is("24: said", () -> mill.said(0), 5);
        Due.is("24: none such", () -> mill.said(1), Due.NO_INDEX);
        Due.is("24: none such", () -> mill.said(-1), Due.NO_INDEX);
        Due.is("22: no step", () -> mill.mean(0), 0);
        Due.is("23: main is under way", () -> mill.meant(5), 1);
        Due.is("22: mean that throws changes nothing", () -> mill.mean(-1), Due.ILLEGAL_ARGUMENT);
        Due.is("23: so that the last one stays", () -> mill.meant(2), 0);
        Due.is("22: a unit in assembly", () -> Due.assemble(mill, "nop") + mill.mean(5), Due.ILLEGAL_STATE);
    }

    private static void means(String text, int answer, int value, int steps) {
        ToolMill mill = new ToolMill();
        mill.input(-7);
        Due.is("22: source() of " + text, () -> Due.source(mill, text), 0);
        Due.is("22: mean of " + text, () -> mill.mean(20000), answer);
        Due.is("23: value of " + text, () -> mill.meant(1), value);
        Due.is("23: steps of " + text, () -> mill.meant(2), steps);
    }

    private static void meanings() {
        means("proc main(){}", 1, 0, 0);
        means("proc main(){return 5/0;}", 2, 1, 1);
        means("proc main(){return 5%(3-3);}", 2, 1, 1);
        means("var a[2];proc main(){return a[2];}", 2, 2, 1);
        means("var a[2];proc main(){a[0-1]=1/0;}", 2, 2, 1);
        means("proc main(){var a[2];a[1]=4;return a[1];}", 1, 4, 3);
        means("proc main(){return main();}", 2, 3, 40);
        means("proc f(n){if(n==38){return n;}return f(n+1);}proc main(){return f(0);}", 1, 38, 79);
        means("proc f(n){if(n==39){return n;}return f(n+1);}proc main(){return f(0);}", 2, 3, 79);
        means("proc main(){var i;while(i<3){var k;k=k+1;i=i+1;if(i==3){return k;}}}", 1, 3, 18);
        means("proc main(){while(0){}}", 1, 0, 2);
        means("proc main(){return (-2147483647-1)/-1;}", 1, Integer.MIN_VALUE, 1);
        means("proc main(){return (-2147483647-1)%-1;}", 1, 0, 1);
        means("proc main(){return in()/2*100+in();}", 1, -300, 1);
        means("proc main(){return -8>>33;}", 1, -4, 1);
        means("proc main(){return 1<<33|~0-!5^!0;}", 1, -2, 1);
        means("proc main(){var text;text=3;if(text<=3){return 1;}else{return 2;}}", 1, 1, 4);
        means("var f;proc main(){var f;f=1;g();return f;}proc g(){f=2;}", 1, 1, 5);
        ToolMill mill = new ToolMill();
        Due.source(mill, "proc main(a){}");
        Due.is("22: main with a parameter", () -> mill.mean(5), Due.ILLEGAL_STATE);
        mill.forget();
        Due.source(mill, "proc main(){}var a;");
        Due.source(mill, "var a;");
        Due.is("22: declared twice", () -> mill.mean(5), Due.ILLEGAL_STATE);
        mill.forget();
        Due.source(mill, "proc main(){}proc f(){a(1);}");
        Due.source(mill, "proc a(b,c){}");
        Due.is("22: of another kind where nothing reaches it", () -> mill.mean(5), Due.ILLEGAL_STATE);
        Due.is("22: it links all the same", () -> mill.link(0, 512), -1);
        Due.is("22: kind 3", () -> mill.fault(0), 3);
        Due.is("22: fault() stays as it was", () -> mill.mean(5), Due.ILLEGAL_STATE);
        Due.is("22: kind 3 still", () -> mill.fault(0), 3);
    }

    public static void main(String[] args) {
        newObject();
        put();
        end();
        units();
        forgetLinked();
        linkFaults();
        typed();
        objects();
        inputs();
        link();
        run();
        outputsKept();
        outcomes();
        listing();
        meaning();
        meanings();
        Due.finish("ToolMillPromises");
    }
}
