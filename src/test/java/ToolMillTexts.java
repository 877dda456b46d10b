/** Texts of the language and of assembly: their faults, their assembly, their objects. */
public final class ToolMillTexts {
    private ToolMillTexts() {
    }

    private static void line(String text, int kind, int line) {
        Due.line(text, kind, line);
    }

    private static void place(String text, int kind, int place) {
        Due.place(text, kind, place);
    }

    private static void words(String text, String due) {
        Due.words(text, due);
    }

    private static void uses(String text, String due) {
        Due.uses(text, due);
    }

    private static String many(String text, int times) {
        return Due.many(text, times);
    }

    private static void languageTokens() {
        place("", 0, 0);
        place(" # var\n", 0, 0);
        place("var abcdefgh;", 0, 0);
        place("var abcdefghi;", 1, 4);
        place("var a[200];var b[1];", 0, 0);
        place("var a[201];", 1, 6);
        place("var a[0];", 1, 6);
        place("var a[x];", 1, 6);
        place("var A;", 1, 4);
        place("var in;", 1, 4);
        place("proc f(){x=2147483647;}", 0, 0);
        place("proc f(){x=2147483648;}", 1, 11);
        place("proc f(){x=0000000001;}", 0, 0);
        place("proc f(){x=00000000001;}", 1, 11);
        place("proc f(){x=12ab;}", 1, 13);
        place("proc f(){x=1>2;}", 1, 12);
        place("proc f(){x=1>>2<<3;}", 0, 0);
        place("proc f(){x=1==2==3;}", 1, 15);
        place("proc f(){x=1!=2;x=!!~-x;}", 0, 0);
        place("proc f(){x=!=2;}", 1, 11);
        place("proc f(){x}", 1, 10);
        place("proc f(){", 1, 9);
        place("proc f()", 1, 8);
        place("proc", 1, 4);
        place("x=1;", 1, 0);
        place("proc f(){proc g(){}}", 1, 9);
        place("proc f(){else{}}", 1, 9);
        place("proc f(){if(1){}else{}else{}}", 1, 22);
        place("proc f(a,b,c,d){}", 0, 0);
        place("proc f(a,b,c,d,e){}", 1, 14);
        place("proc f(a,){}", 1, 9);
        place("proc f(){g(1,2,3,4);}", 0, 0);
        place("proc f(){g(1,2,3,4,5);}", 1, 18);
        place("proc f(){g(1,);}", 1, 13);
        place("proc f(){x=in(1);}", 1, 14);
        place("proc f(){return;}", 1, 15);
        place("proc f(){out(1)}", 1, 15);
        place("proc f(){a[1];}", 1, 13);
    }

    private static void languageOpen() {
        place("proc f(){x=" + many("(", 19) + "1" + many(")", 19) + ";}", 0, 0);
        place("proc f(){x=" + many("(", 20) + "1" + many(")", 20) + ";}", 1, 30);
        place("proc f(){x=" + many("-", 19) + "1;}", 0, 0);
        place("proc f(){x=" + many("~", 20) + "1;}", 1, 30);
        place("proc f(){x=" + many("-1-", 300) + "1;}", 0, 0);
        place("proc f(){" + many("if(1){", 19) + many("}", 20), 0, 0);
        place("proc f(){" + many("if(1){", 20) + many("}", 21), 1, 9 + 6 * 19 + 2);
        place("proc f(){" + many("if(1){", 19) + "var a[1];" + many("}", 20), 1, 9 + 6 * 19 + 5);
        place("proc f(){" + many("if(1){", 18) + "x=a[(1)];", 1, 9 + 6 * 18 + 4);
        place("proc f(){" + many("if(1){", 18) + "in=1;", 1, 9 + 6 * 18);
    }

    private static void languageNames() {
        place("var a;var a;", 2, 10);
        place("var a;proc a(){}", 2, 11);
        place("proc f(a){var f;f=a;}", 0, 0);
        place("proc f(a){var a;}", 2, 14);
        place("proc f(){var a;if(1){var a;}}", 2, 25);
        place("proc f(){if(1){var a;}var a;while(1){var b;}if(1){var b;}}", 0, 0);
        place("proc f(){g=1;h();}proc f2(){g();h=1;}", 3, 28);
        place("proc f(){x=g;}proc g(){}", 3, 11);
        place("proc f(){g(1);}proc g(a,b){}", 3, 9);
        place("proc f(){g[1]=1;}var g;", 3, 9);
        place("proc f(){var a;a=a[1];}", 3, 17);
        place("proc f(){var a[2];a=1;}", 3, 18);
        place("proc f(a){a();}", 3, 10);
        place("proc f(){h(h(1),2);}", 3, 11);
        place("proc f(){h(1,h);}", 3, 13);
        place("proc f(){var a;}proc g(){a();a();}", 0, 0);
        place("proc f(){var b;b();}var a;var a;", 2, 30);
        place("proc f(){if(1){var a[2];}a=1;a=2;}", 0, 0);
        place("proc f(){a=1;var a[2];a[1]=1;a[1]=2;}", 0, 0);
    }

    private static void languageMuch() {
        place("proc f(){var a[200];var b[199];var c;}", 0, 0);
        place("proc f(){var a[200];if(1){var b[199];}var c;var d;}", 4, 48);
        place("proc f(){x=1+(1+(1+(1+(1+(1+(1+1))))));}", 0, 0);
        place("proc f(){a[1]=1+(1+(1+(1+(1+(1+(1+1))))));}", 4, 34);
        place("proc f(){x=1+(1+(1+(1+(1+(g(1,2,-3))))));}", 0, 0);
        place("proc f(){x=1+(1+(1+(1+(1+(g(1,2,3,-4))))));}", 4, 34);
        StringBuilder declared = new StringBuilder();
        StringBuilder outer = new StringBuilder("proc f(){");
        for (int i = 10; i < 70; i++) {
            declared.append("var a").append(i).append(';');
            outer.append("o").append(i).append("=1;");
        }
        place(declared.toString(), 0, 0);
        place(declared + "proc b(){}", 4, 60 * 8 + 5);
        place(outer + "}", 0, 0);
        place(outer + "y=1;}", 4, 9 + 60 * 6);
        place(declared + "var b;" + "proc f(){x=1;x();}", 3, 60 * 8 + 6 + 13);
        place("var text;", 4, 9);
        place("proc text(){}var data;", 0, 0);
        place(many("var q[200];", 1) + "var a[200];var b[200];var c[200];var d[200];var e[200];var g[200];var h[200];var i[200];var j[200];"
            + "var k[200];var l[200];var m[200];var n[200];var o[200];var p[200];var r[200];var s[200];var t[200];var u[200];var v[55];", 0, 0);
        place(many("var q[200];", 1) + "var a[200];var b[200];var c[200];var d[200];var e[200];var g[200];var h[200];var i[200];var j[200];"
            + "var k[200];var l[200];var m[200];var n[200];var o[200];var p[200];var r[200];var s[200];var t[200];var u[200];var v[76];", 4, 230);
        place("proc f(){" + many("a[b]=c;", 313) + "}", 0, 0);
        place("proc f(){" + many("a[b]=c;", 314) + "}", 4, 9 + 7 * 314 + 1);
    }

    private static void languageTyped() {
        ToolMill mill = new ToolMill();
        Due.source(mill, "proc f(a,b){var c[2];if(a<=b){c[b]=g(1)|h(2,in());}else{while(q){q=07;}}k[~a]=c[0]/k[b];z();return !a!=-b;}var q;");
        Due.same("typed", Due.typed(mill, 0), ".text f\n.globl f\n.kind f,5\nf:\naddiu $sp,$sp,-28\nslt $at,$sp,$gp\nbnez $at,_room\n"
            + "sw $ra,24($sp)\nsw $a0,0($sp)\nsw $a1,4($sp)\naddiu $v1,$sp,8\naddiu $at,$sp,16\n_1:\nsw $zero,0($v1)\naddiu $v1,$v1,4\n"
            + "bne $v1,$at,_1\nlw $t0,0($sp)\nlw $t1,4($sp)\nslt $t0,$t1,$t0\nxori $t0,$t0,1\nbeqz $t0,_2\nlw $t0,4($sp)\n"
            + "sltiu $at,$t0,2\nbeqz $at,_index\nsll $t0,$t0,2\naddu $t0,$t0,$sp\nli $t1,1\nsw $t0,16($sp)\nmove $a0,$t1\njal g\n"
            + "lw $t0,16($sp)\nmove $t1,$v0\nli $t2,2\nli $v0,5\nsyscall\nmove $t3,$v0\nsw $t0,16($sp)\nsw $t1,20($sp)\n"
            + "move $a0,$t2\nmove $a1,$t3\njal h\nlw $t0,16($sp)\nlw $t1,20($sp)\nmove $t2,$v0\nor $t1,$t1,$t2\nsw $t1,8($t0)\n"
            + "b _3\n_2:\n_4:\nlw $t0,q\nbeqz $t0,_5\nli $t0,7\nsw $t0,q\nb _4\n_5:\n_3:\nlw $t0,0($sp)\nnor $t0,$t0,$zero\n"
            + "lw $at,k-4\nsltu $at,$t0,$at\nbeqz $at,_index\nsll $t0,$t0,2\nli $t1,0\nsltiu $at,$t1,2\nbeqz $at,_index\n"
            + "sll $t1,$t1,2\naddu $t1,$t1,$sp\nlw $t1,8($t1)\nlw $t2,4($sp)\nlw $at,k-4\nsltu $at,$t2,$at\nbeqz $at,_index\n"
            + "sll $t2,$t2,2\nlui $at,%hi(k)\naddu $at,$at,$t2\nlw $t2,%lo(k)($at)\nbeqz $t2,_div\ndiv $t1,$t2\nmflo $t1\n"
            + "lui $at,%hi(k)\naddu $at,$at,$t0\nsw $t1,%lo(k)($at)\njal z\nlw $t0,0($sp)\nsltiu $t0,$t0,1\nlw $t1,4($sp)\n"
            + "subu $t1,$zero,$t1\nxor $t0,$t0,$t1\nsltu $t0,$zero,$t0\nmove $v0,$t0\nb _0\nmove $v0,$zero\n_0:\nlw $ra,24($sp)\n"
            + "addiu $sp,$sp,28\njr $ra\n.data q\n.globl q\n.kind q,1\nq: .word 0\n.want g,4\n.want h,5\n.want k,2\n.want z,3\n");
        mill.forget();
        Due.source(mill, "var r[200];proc p(){}proc m(){out(1-2*3%4&5<<6>>7^8);x=1==2;x=1<3;}");
        Due.same("typed", Due.typed(mill, 0), ".data r\n.word 200\n.globl r\n.kind r,2\nr: .space 800\n.text p\n.globl p\n.kind p,3\np:\n"
            + "addiu $sp,$sp,-4\nslt $at,$sp,$gp\nbnez $at,_room\nsw $ra,0($sp)\nmove $v0,$zero\n_0:\nlw $ra,0($sp)\naddiu $sp,$sp,4\njr $ra\n"
            + ".text m\n.globl m\n.kind m,3\nm:\naddiu $sp,$sp,-4\nslt $at,$sp,$gp\nbnez $at,_room\nsw $ra,0($sp)\n"
            + "li $t0,1\nli $t1,2\nli $t2,3\nmult $t1,$t2\nmflo $t1\nli $t2,4\nbeqz $t2,_div\ndiv $t1,$t2\nmfhi $t1\nli $t2,5\n"
            + "and $t1,$t1,$t2\nli $t2,6\nsllv $t1,$t1,$t2\nli $t2,7\nsrav $t1,$t1,$t2\nsubu $t0,$t0,$t1\nli $t1,8\nxor $t0,$t0,$t1\n"
            + "move $a0,$t0\nli $v0,1\nsyscall\nli $t0,1\nli $t1,2\nxor $t0,$t0,$t1\nsltiu $t0,$t0,1\nsw $t0,x\n"
            + "li $t0,1\nli $t1,3\nslt $t0,$t0,$t1\nsw $t0,x\nmove $v0,$zero\n_1:\nlw $ra,0($sp)\naddiu $sp,$sp,4\njr $ra\n.want x,1\n");
    }

    private static void assemblyTokens() {
        line("", 0, 0);
        line("x.y_z0123456789a: nop", 0, 0);
        line("x.y_z0123456789ab: nop", 1, 0);
        line("nop # \\ ? $", 0, 0);
        line("NOP", 1, 0);
        line("li $t0,4294967295", 0, 0);
        line("li $t0,4294967296", 1, 0);
        line("li $t0,00000000001", 1, 0);
        line("li $t0,0xffffffff", 0, 0);
        line("li $t0,0x1ffffffff", 1, 0);
        line("li $t0,0x", 1, 0);
        line("li $t0,12x", 1, 0);
        line("jr $31", 0, 0);
        line("jr $32", 1, 0);
        line("jr $01", 1, 0);
        line("jr $s8", 1, 0);
        line("lui $t0,%hix(x)", 1, 0);
        line("lui $t0,%hi(x)", 0, 0);
        line("lui $t0,%lo(x)", 1, 0);
        line("addiu $t0,$t0,%hi(x)", 1, 0);
        line("ori $t0,$t0,%lo(x)", 1, 0);
        line("lw $t0,x($t1)", 1, 0);
        line("lw $t0,4", 1, 0);
        line("lw $t0,($t1)", 1, 0);
        line("lw $t0,%lo(x)", 1, 0);
        line("b 4", 1, 0);
        line("la $t0,4", 1, 0);
        line(".word -x", 1, 0);
        line(".word x+y", 1, 0);
        line(".word x-1b", 1, 0);
        line(".word 3-2+x-1", 0, 0);
        line(".word +1", 1, 0);
        line(".word 1,", 1, 0);
        line(".set k,2\n.word -k+x-k", 0, 0);
        line("jalr $ra,$t0", 1, 0);
    }

    private static void assemblyNumbers() {
        line("sll $t0,$t0,31", 0, 0);
        line("sll $t0,$t0,-1", 3, 0);
        line("break 1023", 0, 0);
        line("break 1024", 3, 0);
        line("addiu $t0,$t0,-32768", 0, 0);
        line("addiu $t0,$t0,32768", 3, 0);
        line("addiu $t0,$t0,0xffffffff", 0, 0);
        line("andi $t0,$t0,65535", 0, 0);
        line("andi $t0,$t0,-1", 3, 0);
        line("lui $t0,65536", 3, 0);
        line("lw $t0,32768($t0)", 3, 0);
        line(".byte -128,255", 0, 0);
        line(".byte -129", 3, 0);
        line(".half -32768,65535", 0, 0);
        line(".half 65536", 3, 0);
        line(".space 4096", 0, 0);
        line(".space 4097", 3, 0);
        line(".align 4", 0, 0);
        line(".align 5", 3, 0);
        line(".kind x,15", 0, 0);
        line(".kind x,16", 3, 0);
        line(".want x,-1", 3, 0);
        line(".rept 100\n.endr", 0, 0);
        line(".rept 101\n.endr", 3, 0);
        line(".byte 1\nnop", 3, 1);
        line(".byte 1\n.half 1", 3, 1);
        line(".byte 1\n.word 1", 3, 1);
        line(".byte 1\n.align 1\n.half 1", 0, 0);
        line("b x+1\nnop\nx:", 3, 0);
        line("nop\nb x+131072\nx:", 3, 1);
        line("b x+131064\nx:", 0, 0);
    }

    private static void assemblyOrder() {
        line("x: x: $", 2, 0);
        line("x: 12: $", 1, 0);
        line(".set x,1\nx: $", 2, 1);
        line("x:\n.set x,1", 2, 1);
        line("x:\n.set x,1 1", 1, 1);
        line(".word x\n.set x,1\n.word x", 0, 0);
        line(".byte 1,256,x", 1, 0);
        line(".byte 1\n.word 1b", 3, 1);
        line(".word 1b", 4, 0);
        line(".word 1b,", 1, 0);
        line("1: .word 1b\n.word 1f", 4, 1);
        line("b 1f\nb y+1\ny: b 2f", 4, 0);
        line("b y+1\ny: b 2f", 3, 0);
        line("1: b 1b", 0, 0);
        line("1: b 1f", 4, 0);
        line("x: .if 1\n.endif", 1, 0);
        line("x: .endm", 1, 0);
        line(".endm $ x", 5, 0);
        line(".endr", 5, 0);
        line(".endif", 5, 0);
        line(".endif x", 1, 0);
        line(".if x\n.endif", 1, 0);
        line(".data\n.text data", 2, 1);
        line(".data\n.text data x", 1, 1);
        line(".data\n.word 1\nx: nop", 1, 2);
    }

    private static void conditions() {
        words(".if 0\nnop\n.else\nbreak 1\n.endif", "break 1");
        words(".if 2\nbreak 1\n.else\n$\n.endif", "break 1");
        words(".if 0\n$\n.if x y\n.else\n$\n.endif z\n.endif\nbreak 2", "break 2");
        words(".ifsame  a b ,a b\nbreak 1\n.endif\n.ifsame a,a,\nbreak 2\n.endif\n.ifsame ,\nbreak 3\n.endif", "break 1 / break 3");
        line(".ifsame x\n.endif", 1, 0);
        line("nop\n.if 1\n.if 0\n.endif", 5, 1);
        line(".if 1\n.else\n.else\n.endif", 5, 2);
        line(".if 0\n.else\n.else\n.endif", 5, 2);
        line(".if 0\n.else $\n.endif", 0, 0);
        line(".if 1\n.else $\n.endif", 1, 1);
        line(many(".if 1\n", 8) + many(".endif\n", 8), 0, 0);
        line(many(".if 1\n", 9) + many(".endif\n", 9), 6, 8);
        line(many(".if 0\n", 9) + many(".endif\n", 9), 6, 8);
        line(".rept 2\n.if 1\n.endr\n.endif", 5, 0);
        line("nop\n.rept 1\n.endif\n.endr", 5, 1);
        line(".if 1\n.rept 1\n.endif\n.endr", 5, 1);
    }

    private static void macros() {
        words(".macro m a,b\nbreak \\a\\b\n.endm\nm 1 , 2\nx: m 3,4", "break 12 / break 34");
        words(".macro m a\nbreak \\@\n.rept 2\nbreak \\a+\\@\n.endr\n.endm\nm 5\nm 6", "break 0 / break 5 / break 5 / break 1 / break 7 / break 7");
        words(".macro m a\n.if \\a\nbreak \\a\nm \\a-1\n.endif\n.endm\nm 3", "break 3 / break 2 / break 1");
        words(".macro nop\nbreak 7\n.endm\nnop", "break 7");
        words(".macro m a_1\nbreak \\a_1\nl\\a_1.x:\n.endm\nm 4", "break 4");
        words(".macro m o\n.if 0\n\\o\n\\q\n.endif\n\\o 6\n.endm\nm break", "break 6");
        words(".rept 2\n.rept 2\nbreak 1\n.endr $$\nbreak 2\n.endr", "break 1 / break 1 / break 2 / break 1 / break 1 / break 2");
        words(".rept 0\n$\n.endr\nbreak 3", "break 3");
        line(".macro m a\n\\b\n.endm\nnop\nm 1", 1, 4);
        line(".macro m a\nnop # \\b\n.endm\nm 1", 0, 0);
        line(".macro m a\nnop\n.endm\nm", 1, 3);
        line(".macro m a\nnop\n.endm\nm 1,2", 1, 3);
        line(".macro m a,b\nnop\n.endm\nm 1,", 1, 3);
        line(".macro m\nnop\n.endm\nm 1", 1, 3);
        line(".macro m a,a\n.endm", 1, 0);
        line(".macro m a.b\n.endm", 1, 0);
        line(".macro m a,b,c,d\n.endm", 0, 0);
        line(".macro m a,b,c,d,e\n.endm", 1, 0);
        line(".macro m\n.endm\n.macro m\n.endm", 2, 2);
        line(".macro m\n\n.macro n\n.endm", 5, 2);
        line("nop\n.macro m\nnop", 5, 1);
        line(".rept 1\n.macro m\n.endr", 5, 0);
        line("nop\n.rept 2\n.rept 1\n.endr", 5, 1);
        line(".macro m\n.rept 2\n.endm\n\nm", 5, 4);
        line(".macro m\n.if 1\n.endm\n\nm\n.endif", 5, 4);
        line("m\n.macro m\n.endm", 1, 0);
        line("nop\n.rept 2\nnop\nx: nop\n.endr", 2, 1);
    }

    private static void limits() {
        line(many(".rept 1\n", 10) + "nop\n" + many(".endr\n", 10), 0, 0);
        line(many(".rept 1\n", 11) + "nop\n" + many(".endr\n", 11), 6, 0);
        line(many(".rept 1\n", 10) + ".rept 0\nnop\n.endr\n" + many(".endr\n", 10), 0, 0);
        line("nop\n.macro m\nm\n.endm\nm", 6, 4);
        StringBuilder macros = new StringBuilder();
        StringBuilder sections = new StringBuilder();
        for (int i = 0; i < 63; i++) {
            sections.append(".data s").append(i).append('\n');
            if (i < 12) {
                macros.append(".macro m").append(i).append("\n.endm\n");
            }
        }
        line(macros.toString(), 0, 0);
        line(macros + ".macro x\n.endm", 6, 24);
        line(sections.toString(), 0, 0);
        line(sections + ".text x", 6, 63);
        String[] limited = {"l\\@:", ".globl l\\@", ".kind l\\@,1", ".want l,1"};
        for (String one : limited) {
            String text = ".macro m\n" + one + "\n.endm\n.rept 6\n.rept 100\nm\n.endr\n.endr\n";
            line(text, 0, 0);
            line(text + one.replace("\\@", "x"), 6, 8);
        }
        line(".macro m\n.set l\\@,1\n.endm\n.rept 2\n.rept 100\nm\n.endr\n.endr\n.set l5,1", 0, 0);
        line(".macro m\n.set l\\@,1\n.endm\n.rept 2\n.rept 100\nm\n.endr\n.endr\n.set x,1", 6, 8);
        line(".rept 30\n.rept 10\n.word x,x,x,x,x,x,x,x,x,x\n.endr\n.endr", 0, 0);
        line(".rept 30\n.rept 10\n.word x,x,x,x,x,x,x,x,x,x\n.endr\n.endr\nb x", 6, 5);
        line(many(".space 4096\n", 4), 0, 0);
        line(many(".space 4096\n", 4) + ".byte 0", 6, 4);
        line(many(".space 4096\n", 3) + ".space 4092\nb x", 6, 4);
        // 1 + 1 + 1, then 99 times 1 + 1 + 1 + 37, then as many as are wanted
        line(".rept 99\n.rept 37\n\n.endr\n.endr" + many("\n", 35), 0, 0);
        line(".rept 99\n.rept 37\n\n.endr\n.endr" + many("\n", 36), 6, 40);
        line(".macro m a\n.ifsame " + many("\\a", 19) + ",x\n.endif\n.endm\nm " + many("y", 10), 0, 0);
        line(".macro m a\n.ifsame " + many("\\a", 19) + ",xy\n.endif\n.endm\nm " + many("y", 10), 6, 4);
        line(".macro m a\n.ifsame " + many("\\a", 19) + ",xy\\z\n.endif\n.endm\nm " + many("y", 10), 1, 4);
        line(".ifsame " + many("y", 300) + ",x\n.endif", 0, 0);
    }

    /** Of one line: the faults of its labels, then the least kind of all the rest. */
    private static void orderInOneLine() {
        line("x: x: $", 2, 0);
        line("x: y: x: .if 1", 2, 0);
        line("x: .if 1", 1, 0);
        line("x:\n.set x,1 1", 1, 1);
        line(".data x\n.text x 1", 1, 1);
        line("x:\n.set x,y", 1, 1);
        line(".byte 1\n.word 1b", 3, 1);
        line(".byte 1\nb 1b", 3, 1);
        line(".byte 1\n.half 1b", 1, 1);
        line(".byte 300,$", 1, 0);
        line(".byte 1\n.word 1b,x y", 1, 1);
        String full = many(".space 4096\n", 4);
        line(full + ".byte 256", 3, 4);
        line(full + ".space 4097", 3, 4);
        line(full + ".word 1b", 4, 4);
        line(full + "b 1b", 4, 4);
        line(full + "blt $t0,$t1,1b", 4, 4);
        line(full + "la $t0,1b", 4, 4);
        line(full + ".word 0,x y", 1, 4);
        String uses = ".rept 30\n.rept 10\n.word x,x,x,x,x,x,x,x,x,x\n.endr\n.endr\n";
        line(uses + ".word x", 6, 5);
        line(uses + ".word x,1b", 4, 5);
        line(uses + ".byte 1\n.word x", 3, 6);
        String labels = ".macro m\nl\\@:\n.endm\n.rept 6\n.rept 100\nm\n.endr\n.endr\n";
        line(labels + "y: $", 6, 8);
        line(labels + "l3: y: $", 2, 8);
        String constants = labels.replace("l\\@:", ".set l\\@,1").replace(".rept 6", ".rept 2");
        line(constants + "x:\n.set x,1", 2, 9);
        String told = labels.replace("l\\@:", ".globl l\\@");
        line(told + ".kind x,16", 3, 8);
        line(told + ".globl x,", 1, 8);
        String sections = "";
        for (int i = 0; i < 63; i++) {
            sections += ".data s" + i + "\n";
        }
        line(sections + ".text s5", 2, 63);
        line(many(".if 1\n", 8) + ".if x\n", 1, 8);
        line(many(".if 1\n", 8) + ".ifsame\n", 1, 8);
    }

    /** A closing line that is missing is told ahead of what is one too many, in the line that opens. */
    private static void missingAheadOfTooMany() {
        String nine = many(".rept 1\n", 9);
        String closed = many(".endr\n", 9);
        line(".macro m\n.rept 1\n.endm\n" + nine + "m\n" + closed, 5, 3);
        line(".macro m\n.rept 1\n.rept 1\n.endr\n.endm\n" + nine + "m\n" + closed, 5, 5);
        line(".macro m\n.rept 1\n.endr\n.endm\n" + nine + "m\n" + closed, 6, 4);
        line(".macro m\n.rept 0\n.endm\n" + nine + "m\n" + closed, 5, 3);
        line(".macro m\n.rept 0\n.endr\n.endm\n" + nine + "m\n" + closed, 0, 0);
        line(".macro m\n.rept 101\n.endm\n" + nine + "m\n" + closed, 3, 3);
        line(".macro m\n.rept 1,\n.endm\n" + nine + "m\n" + closed, 1, 3);
        line(".macro m\nx: .rept 1\n.endm\n" + nine + "m\n" + closed, 1, 3);
        line(".macro m\n.rept 1\n.endm\n" + nine + "nop\n" + closed, 0, 0);
        line(".macro m\n.rept 1\n.endm\n" + nine + "m 1\n" + closed, 1, 3);
        line(".macro m\n.rept 1\n.endm\n.rept 1\n" + nine + "m\n.endr\n" + closed, 6, 3);
        line(".macro m\n\n.endm\n.rept 1\n" + nine + "m\n.endr\n" + closed, 6, 3);
        String twelve = "";
        for (int i = 0; i < 12; i++) {
            twelve += ".macro m" + i + "\n.endm\n";
        }
        line(twelve + ".macro x\nnop", 5, 24);
        line(twelve + ".macro x", 5, 24);
        line(twelve + ".macro x\nnop\n.endm\n$", 6, 24);
        line(twelve + ".macro x\n.macro y\n.endm", 6, 24);
        line(twelve + ".macro m3\nnop", 2, 24);
        line(twelve + ".macro m3\n.endm", 2, 24);
        line(twelve + ".macro x 1\nnop", 1, 24);
        line(twelve + "nop\n.rept 1\n.macro x\n.endr", 5, 25);
        line(twelve + ".rept 1\n.macro m3\n.endr", 2, 24);
    }

    private static void slots() {
        words("addu $t0,$t1,$t2\nb x\nx:", "beq $zero,$zero,1 / addu $t0,$t1,$t2");
        words("addu $t0,$t1,$t2\nbeqz $t0,x\nx:", "addu $t0,$t1,$t2 / beq $t0,$zero,1 / sll $zero,$zero,0");
        words("addu $t0,$t1,$t2\nx: b x", "addu $t0,$t1,$t2 / beq $zero,$zero,-1 / sll $zero,$zero,0");
        words("addu $t0,$t1,$t2\n1: b 1b", "addu $t0,$t1,$t2 / beq $zero,$zero,-1 / sll $zero,$zero,0");
        words("x: addu $t0,$t1,$t2\nb x", "beq $zero,$zero,-1 / addu $t0,$t1,$t2");
        words("nop\njr $ra", "jr $ra / sll $zero,$zero,0");
        words("nop\nnop\njr $ra\njr $t0", "sll $zero,$zero,0 / jr $ra / sll $zero,$zero,0 / jr $t0 / sll $zero,$zero,0");
        words("syscall\njr $ra", "syscall / jr $ra / sll $zero,$zero,0");
        words("break 1\njr $ra", "break 1 / jr $ra / sll $zero,$zero,0");
        words("lw $ra,0($sp)\njr $ra", "lw $ra,0($sp) / jr $ra / sll $zero,$zero,0");
        words("sw $ra,0($sp)\njalr $t0", "sw $ra,0($sp) / jalr $t0 / sll $zero,$zero,0");
        words("sw $ra,0($sp)\njr $t0", "jr $t0 / sw $ra,0($sp)");
        words("li $ra,1\nx: nop\nli $ra,1\nbgezal $t0,x", "addiu $ra,$zero,1 / sll $zero,$zero,0 / addiu $ra,$zero,1 / bgezal $t0,-3 / sll $zero,$zero,0");
        words("move $zero,$t0\nbeq $zero,$t1,x\nx:", "beq $zero,$t1,1 / addu $zero,$t0,$zero");
        words("mult $t0,$t1\nbeqz $t0,x\nx:", "beq $t0,$zero,1 / mult $t0,$t1");
        words("mflo $t0\nbltz $t0,x\nx:", "mflo $t0 / bltz $t0,1 / sll $zero,$zero,0");
        words(".noreorder\nnop\n.reorder\njr $ra", "sll $zero,$zero,0 / jr $ra / sll $zero,$zero,0");
        words(".noreorder\nnop\njr $ra", "sll $zero,$zero,0 / jr $ra");
        words("nop\n.noreorder\n.globl x\n.reorder\n.data\nx: .text\njr $ra", "jr $ra / sll $zero,$zero,0");
        words("li $t0,9\n.align 0\njr $ra", "addiu $t0,$zero,9 / jr $ra / sll $zero,$zero,0");
        words("li $t0,9\n.space 0\njr $ra", "addiu $t0,$zero,9 / jr $ra / sll $zero,$zero,0");
        words("li $t0,9\n.word 13\njr $ra", "addiu $t0,$zero,9 / break 0 / jr $ra / sll $zero,$zero,0");
        words("blt $t0,$t1,x\nx:", "slt $at,$t0,$t1 / bne $at,$zero,1 / sll $zero,$zero,0");
        uses("lw $t0,x\njal y", "0 0 1 -1 0 0 x / 0 8 2 -1 0 0 x / 0 4 3 -1 0 1 y / ");
        uses("lw $t0,x+8\nb z\n.text q\nz: .word z,1f\n.data\n1:", "0 0 1 -1 8 0 x / 0 8 2 -1 8 0 x / 0 4 4 1 0 1  / 1 0 0 1 0 3  / 1 4 0 2 0 3  / ");
    }

    private static void others() {
        words("li $t0,-32768\nli $t0,32767", "addiu $t0,$zero,-32768 / addiu $t0,$zero,32767");
        words("li $t0,32768\nli $t0,65535", "ori $t0,$zero,32768 / ori $t0,$zero,65535");
        words("li $t0,65536\nli $t0,-32769", "lui $t0,1 / lui $t0,65535 / ori $t0,$t0,32767");
        words("not $t0,$t1\nneg $t0,$t1\nmove $t0,$t1", "nor $t0,$t1,$zero / subu $t0,$zero,$t1 / addu $t0,$t1,$zero");
        words("x: bge $t0,$t1,x\nbgt $t0,$t1,x\nble $t0,$t1,x", "slt $at,$t0,$t1 / beq $at,$zero,-2 / sll $zero,$zero,0"
            + " / slt $at,$t1,$t0 / bne $at,$zero,-5 / sll $zero,$zero,0 / slt $at,$t1,$t0 / beq $at,$zero,-8 / sll $zero,$zero,0");
        words("lui $t0,%hi(0x18000)\naddiu $t0,$t0,%lo(0x18000)\nsw $t0,%lo(-1)($t1)", "lui $t0,2 / addiu $t0,$t0,-32768 / sw $t0,-1($t1)");
        words("sllv $t0,$t1,$t2\nsrav $t0,$t1,$t2\nsra $t0,$t1,5\nmthi $t3\ndivu $t4,$t5", "sllv $t0,$t1,$t2 / srav $t0,$t1,$t2 / sra $t0,$t1,5 / mthi $t3 / divu $t4,$t5");
        words(".word 0x01020304,-1\n.half 1,-1\n.byte 1,2,3,4", ".word 16909060 / .word -1 / .word -65535 / .word 67305985");
    }

    public static void main(String[] args) {
        languageTokens();
        languageOpen();
        languageNames();
        languageMuch();
        languageTyped();
        assemblyTokens();
        assemblyNumbers();
        assemblyOrder();
        conditions();
        macros();
        orderInOneLine();
        missingAheadOfTooMany();
        limits();
        slots();
        others();
        Due.finish("ToolMillTexts");
    }
}
