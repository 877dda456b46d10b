/** Section 3 of the document: the assembly of a unit, form by form. */
public final class ToolMillEdgesTyped {
    private ToolMillEdgesTyped() {
    }

    private static void unit(String text, String due) {
        ToolMill mill = new ToolMill();
        Due.is("source() of " + Due.shown(text), () -> Due.source(mill, text), 0);
        Due.same("assembly of " + Due.shown(text), Due.typed(mill, 0).replace("\n", ";"), due);
        Due.is("it is in the language", () -> mill.unit(0, 0), 1);
    }

    private static String opening(int kind, int frame) {
        return ".text f;.globl f;.kind f," + kind + ";f:;addiu $sp,$sp,-" + frame + ";slt $at,$sp,$gp;bnez $at,_room;sw $ra," + (frame - 4) + "($sp);";
    }

    private static String closing(int frame) {
        return "move $v0,$zero;_0:;lw $ra," + (frame - 4) + "($sp);addiu $sp,$sp," + frame + ";jr $ra;";
    }

    /** A procedure without parameters and locals: its code, the words that it saves, and what it wants. */
    private static void code(String body, int saved, String due, String wants) {
        int frame = 4 * (saved + 1);
        unit("proc f(){" + body + "}", opening(3, frame) + due + closing(frame) + wants);
    }

    private static void declarations() {
        unit("", "");
        unit("var a;", ".data a;.globl a;.kind a,1;a: .word 0;");
        unit("var a[1];", ".data a;.word 1;.globl a;.kind a,2;a: .space 4;");
        unit("var a[200];", ".data a;.word 200;.globl a;.kind a,2;a: .space 800;");
        unit("var abcdefgh;var a[07];", ".data abcdefgh;.globl abcdefgh;.kind abcdefgh,1;abcdefgh: .word 0;.data a;.word 7;.globl a;.kind a,2;a: .space 28;");
        unit("proc f(){}", opening(3, 4) + closing(4));
        unit("proc f(a){}", opening(4, 8) + "sw $a0,0($sp);" + closing(8));
        unit("proc f(a,b,c,d){}", opening(7, 20) + "sw $a0,0($sp);sw $a1,4($sp);sw $a2,8($sp);sw $a3,12($sp);" + closing(20));
        String clear = "_1:;sw $zero,0($v1);addiu $v1,$v1,4;bne $v1,$at,_1;";
        unit("proc f(){var a;}", opening(3, 8) + "addiu $v1,$sp,0;addiu $at,$sp,4;" + clear + closing(8));
        unit("proc f(a,b){var c;}", opening(5, 16) + "sw $a0,0($sp);sw $a1,4($sp);addiu $v1,$sp,8;addiu $at,$sp,12;" + clear + closing(16));
        unit("proc f(a){var b[200];var c[200];}", opening(4, 1608) + "sw $a0,0($sp);addiu $v1,$sp,4;addiu $at,$sp,1604;" + clear + closing(1608));
        unit("proc f(){if(1){var a[2];}var a;a=1;}", opening(3, 16) + "addiu $v1,$sp,0;addiu $at,$sp,12;" + clear
            + "li $t0,1;beqz $t0,_2;_2:;li $t0,1;sw $t0,8($sp);" + closing(16));
        unit("proc f(){}proc g(){}", opening(3, 4) + closing(4) + (opening(3, 4) + closing(4)).replace(" f", " g").replace("f:", "g:").replace("_0", "_1"));
        unit("proc f(){while(1){}}proc g(){if(1){}}", opening(3, 4) + "_1:;li $t0,1;beqz $t0,_2;b _1;_2:;" + closing(4)
            + (opening(3, 4) + "li $t0,1;beqz $t0,_4;_4:;" + closing(4)).replace(" f", " g").replace("f:", "g:").replace("_0", "_3"));
    }

    private static void statements() {
        code("", 0, "", "");
        code("x=5;", 0, "li $t0,5;sw $t0,x;", ".want x,1;");
        code("a[1]=5;", 0, "li $t0,1;lw $at,a-4;sltu $at,$t0,$at;beqz $at,_index;sll $t0,$t0,2;li $t1,5;lui $at,%hi(a);addu $at,$at,$t0;sw $t1,%lo(a)($at);", ".want a,2;");
        code("g();", 0, "jal g;", ".want g,3;");
        code("g(1,2,3,4);", 0, "li $t0,1;li $t1,2;li $t2,3;li $t3,4;move $a0,$t0;move $a1,$t1;move $a2,$t2;move $a3,$t3;jal g;", ".want g,7;");
        code("g(h(1));", 0, "li $t0,1;move $a0,$t0;jal h;move $t0,$v0;move $a0,$t0;jal g;", ".want g,4;.want h,4;");
        code("g(1,h());", 1, "li $t0,1;sw $t0,0($sp);jal h;lw $t0,0($sp);move $t1,$v0;move $a0,$t0;move $a1,$t1;jal g;", ".want g,5;.want h,3;");
        code("if(1){g();}", 0, "li $t0,1;beqz $t0,_1;jal g;_1:;", ".want g,3;");
        code("if(1){g();}else{h();}", 0, "li $t0,1;beqz $t0,_1;jal g;b _2;_1:;jal h;_2:;", ".want g,3;.want h,3;");
        code("if(1){}else{}", 0, "li $t0,1;beqz $t0,_1;b _2;_1:;_2:;", "");
        code("if(1){if(2){}}else{if(3){}}", 0, "li $t0,1;beqz $t0,_1;li $t0,2;beqz $t0,_2;_2:;b _3;_1:;li $t0,3;beqz $t0,_4;_4:;_3:;", "");
        code("while(1){g();}", 0, "_1:;li $t0,1;beqz $t0,_2;jal g;b _1;_2:;", ".want g,3;");
        code("while(1){while(2){}}", 0, "_1:;li $t0,1;beqz $t0,_2;_3:;li $t0,2;beqz $t0,_4;b _3;_4:;b _1;_2:;", "");
        code("return 7;", 0, "li $t0,7;move $v0,$t0;b _0;", "");
        code("out(7);", 0, "li $t0,7;move $a0,$t0;li $v0,1;syscall;", "");
        code("f();x=f();", 0, "jal f;jal f;move $t0,$v0;sw $t0,x;", ".want x,1;");
    }

    private static void localOnes() {
        String clear = "_1:;sw $zero,0($v1);addiu $v1,$v1,4;bne $v1,$at,_1;";
        unit("proc f(p,q){var a;var b[3];var c;q=p;a=c;b[a]=b[q];}", opening(5, 32) + "sw $a0,0($sp);sw $a1,4($sp);addiu $v1,$sp,8;addiu $at,$sp,28;" + clear
            + "lw $t0,0($sp);sw $t0,4($sp);lw $t0,24($sp);sw $t0,8($sp);"
            + "lw $t0,8($sp);sltiu $at,$t0,3;beqz $at,_index;sll $t0,$t0,2;addu $t0,$t0,$sp;"
            + "lw $t1,4($sp);sltiu $at,$t1,3;beqz $at,_index;sll $t1,$t1,2;addu $t1,$t1,$sp;lw $t1,12($t1);sw $t1,12($t0);" + closing(32));
        unit("proc f(p){var a[2];x=1+g(a[0],p);}", opening(4, 20) + "sw $a0,0($sp);addiu $v1,$sp,4;addiu $at,$sp,12;" + clear
            + "li $t0,1;li $t1,0;sltiu $at,$t1,2;beqz $at,_index;sll $t1,$t1,2;addu $t1,$t1,$sp;lw $t1,4($t1);lw $t2,0($sp);"
            + "sw $t0,12($sp);move $a0,$t1;move $a1,$t2;jal g;lw $t0,12($sp);move $t1,$v0;addu $t0,$t0,$t1;sw $t0,x;" + closing(20) + ".want x,1;.want g,5;");
        unit("var a;proc f(){a=1;var a;a=2;}", ".data a;.globl a;.kind a,1;a: .word 0;" + opening(3, 8) + "addiu $v1,$sp,0;addiu $at,$sp,4;" + clear
            + "li $t0,1;sw $t0,a;li $t0,2;sw $t0,0($sp);" + closing(8));
    }

    private static void factors() {
        code("x=0;", 0, "li $t0,0;sw $t0,x;", ".want x,1;");
        for (String number : new String[] {"9", "10", "90", "99", "100", "909", "999", "1000", "99999999", "100000000", "900000000", "999999999"}) {
            code("x=" + number + ";", 0, "li $t0," + number + ";sw $t0,x;", ".want x,1;");
        }
        code("x=0000000012;", 0, "li $t0,12;sw $t0,x;", ".want x,1;");
        code("x=2147483647;", 0, "li $t0,2147483647;sw $t0,x;", ".want x,1;");
        code("x=1000000000;", 0, "li $t0,1000000000;sw $t0,x;", ".want x,1;");
        code("x=in();", 0, "li $v0,5;syscall;move $t0,$v0;sw $t0,x;", ".want x,1;");
        code("x=y;", 0, "lw $t0,y;sw $t0,x;", ".want x,1;.want y,1;");
        code("x=a[y];", 0, "lw $t0,y;lw $at,a-4;sltu $at,$t0,$at;beqz $at,_index;sll $t0,$t0,2;lui $at,%hi(a);addu $at,$at,$t0;lw $t0,%lo(a)($at);sw $t0,x;",
            ".want x,1;.want a,2;.want y,1;");
        code("x=-1;", 0, "li $t0,1;subu $t0,$zero,$t0;sw $t0,x;", ".want x,1;");
        code("x=!1;", 0, "li $t0,1;sltiu $t0,$t0,1;sw $t0,x;", ".want x,1;");
        code("x=~1;", 0, "li $t0,1;nor $t0,$t0,$zero;sw $t0,x;", ".want x,1;");
        code("x=-!~(1);", 0, "li $t0,1;nor $t0,$t0,$zero;sltiu $t0,$t0,1;subu $t0,$zero,$t0;sw $t0,x;", ".want x,1;");
    }

    private static void signsBetween() {
        String[][] signs = {
            {"+", "addu $t0,$t0,$t1;"}, {"-", "subu $t0,$t0,$t1;"}, {"|", "or $t0,$t0,$t1;"}, {"^", "xor $t0,$t0,$t1;"},
            {"&", "and $t0,$t0,$t1;"}, {"<<", "sllv $t0,$t0,$t1;"}, {">>", "srav $t0,$t0,$t1;"}, {"*", "mult $t0,$t1;mflo $t0;"},
            {"/", "beqz $t1,_div;div $t0,$t1;mflo $t0;"}, {"%", "beqz $t1,_div;div $t0,$t1;mfhi $t0;"},
            {"==", "xor $t0,$t0,$t1;sltiu $t0,$t0,1;"}, {"!=", "xor $t0,$t0,$t1;sltu $t0,$zero,$t0;"},
            {"<", "slt $t0,$t0,$t1;"}, {"<=", "slt $t0,$t1,$t0;xori $t0,$t0,1;"},
        };
        for (String[] sign : signs) {
            code("x=1" + sign[0] + "2;", 0, "li $t0,1;li $t1,2;" + sign[1] + "sw $t0,x;", ".want x,1;");
            code("a[3]=1" + sign[0] + "2;", 0, "li $t0,3;lw $at,a-4;sltu $at,$t0,$at;beqz $at,_index;sll $t0,$t0,2;li $t1,1;li $t2,2;"
                + sign[1].replace("$t1", "$t2").replace("$t0", "$t1") + "lui $at,%hi(a);addu $at,$at,$t0;sw $t1,%lo(a)($at);", ".want a,2;");
        }
        code("x=1+2-3;", 0, "li $t0,1;li $t1,2;addu $t0,$t0,$t1;li $t1,3;subu $t0,$t0,$t1;sw $t0,x;", ".want x,1;");
        code("x=1-2*3;", 0, "li $t0,1;li $t1,2;li $t2,3;mult $t1,$t2;mflo $t1;subu $t0,$t0,$t1;sw $t0,x;", ".want x,1;");
        code("x=1*2-3;", 0, "li $t0,1;li $t1,2;mult $t0,$t1;mflo $t0;li $t1,3;subu $t0,$t0,$t1;sw $t0,x;", ".want x,1;");
        code("x=1-(2-3);", 0, "li $t0,1;li $t1,2;li $t2,3;subu $t1,$t1,$t2;subu $t0,$t0,$t1;sw $t0,x;", ".want x,1;");
        code("x=1|2==3&4;", 0, "li $t0,1;li $t1,2;or $t0,$t0,$t1;li $t1,3;li $t2,4;and $t1,$t1,$t2;xor $t0,$t0,$t1;sltiu $t0,$t0,1;sw $t0,x;", ".want x,1;");
        code("x=1+(1+(1+(1+(1+(1+(1+g()))))));", 7, "li $t0,1;li $t1,1;li $t2,1;li $t3,1;li $t4,1;li $t5,1;li $t6,1;"
            + "sw $t0,0($sp);sw $t1,4($sp);sw $t2,8($sp);sw $t3,12($sp);sw $t4,16($sp);sw $t5,20($sp);sw $t6,24($sp);jal g;"
            + "lw $t0,0($sp);lw $t1,4($sp);lw $t2,8($sp);lw $t3,12($sp);lw $t4,16($sp);lw $t5,20($sp);lw $t6,24($sp);move $t7,$v0;"
            + "addu $t6,$t6,$t7;addu $t5,$t5,$t6;addu $t4,$t4,$t5;addu $t3,$t3,$t4;addu $t2,$t2,$t3;addu $t1,$t1,$t2;addu $t0,$t0,$t1;sw $t0,x;", ".want x,1;.want g,3;");
    }

    /** What is wanted comes in the order of first uses, once each; what the unit declares is not wanted. */
    private static void wants() {
        unit("proc f(){b[a]=c();a=d(1,2);c();b[0]=e;}var e;", opening(3, 8) + "lw $t0,a;lw $at,b-4;sltu $at,$t0,$at;beqz $at,_index;sll $t0,$t0,2;"
            + "sw $t0,0($sp);jal c;lw $t0,0($sp);move $t1,$v0;lui $at,%hi(b);addu $at,$at,$t0;sw $t1,%lo(b)($at);"
            + "li $t0,1;li $t1,2;move $a0,$t0;move $a1,$t1;jal d;move $t0,$v0;sw $t0,a;jal c;"
            + "li $t0,0;lw $at,b-4;sltu $at,$t0,$at;beqz $at,_index;sll $t0,$t0,2;lw $t1,e;lui $at,%hi(b);addu $at,$at,$t0;sw $t1,%lo(b)($at);"
            + closing(8) + ".data e;.globl e;.kind e,1;e: .word 0;.want b,2;.want a,1;.want c,3;.want d,5;");
    }

    /** The object of a unit is that of its text in assembly. */
    private static void objects() {
        String text = "var v;var a[3];proc f(p){var l[2];l[p]=a[p]/v;while(l[0]<5){if(p){out(g(1,p));}else{l[0]=-v;}}return l[1];}";
        ToolMill mill = new ToolMill();
        Due.source(mill, text);
        String typed = Due.typed(mill, 0);
        Due.is("assemble() of a unit's assembly", () -> Due.assemble(mill, typed), 1);
        for (int what = 1; what < 5; what++) {
            int k = what;
            Due.is("unit(1, " + k + ")", () -> mill.unit(1, k), mill.unit(0, k));
        }
        for (int i = 0; i < mill.unit(0, 1); i++) {
            Due.same("section " + i, Due.listing(mill, 1, i), Due.listing(mill, 0, i));
        }
        Due.same("relocations", Due.relocations(mill, 1), Due.relocations(mill, 0));
        Due.is("but that it is in assembly", () -> mill.unit(1, 0), 0);
        Due.is("without typed signs", () -> mill.typed(1, 0), Due.NO_ELEMENT);
    }

    public static void main(String[] args) {
        declarations();
        statements();
        localOnes();
        factors();
        signsBetween();
        wants();
        objects();
        Due.finish("ToolMillEdgesTyped");
    }
}
