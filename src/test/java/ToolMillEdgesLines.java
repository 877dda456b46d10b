/** The edges that section 4 of the document names of .if, macros and .rept, of the fault's order, and of what is too much. */
public final class ToolMillEdgesLines {
    private ToolMillEdgesLines() {
    }

    private static void fine(String text) {
        Due.line(text, 0, 0);
    }

    private static void fault(String text, int kind, int line) {
        Due.line(text, kind, line);
    }

    private static void words(String text, String due) {
        Due.words(text, due);
    }

    private static String many(String text, int times) {
        return Due.many(text, times);
    }

    private static void conditions() {
        words(".if 1\nbreak 1\n.endif", "break 1");
        words(".if 0\nbreak 1\n.endif", "");
        words(".if -1\nbreak 1\n.else\nbreak 2\n.endif", "break 1");
        words(".if 4294967295+1\nbreak 1\n.else\nbreak 2\n.endif", "break 2");
        words(".set k,1\n.if k-1\nbreak 1\n.else\nbreak 2\n.endif", "break 2");
        words(".if 0\n.if 1\nbreak 1\n.else\nbreak 2\n.endif\nbreak 3\n.else\nbreak 4\n.endif", "break 4");
        words(".if 1\n.if 0\nbreak 1\n.else\nbreak 2\n.endif\nbreak 3\n.else\nbreak 4\n.endif", "break 2 / break 3");
        words(".if 1\n.else\n.if 1\nbreak 1\n.else\nbreak 2\n.endif\n.endif\nbreak 5", "break 5");
        fault(".if", 1, 0);
        fault(".if x\n.endif", 1, 0);
        fault(".if 1f\n.endif\n1:", 1, 0);
        fault(".if 1 1\n.endif", 1, 0);
        fault(".if $t0\n.endif", 1, 0);
        fault("x: .if 1\n.endif", 1, 0);
        fault("1: .if 1\n.endif", 1, 0);
        fault(".if 1\nx: .else\n.endif", 1, 1);
        fault(".if 1\nx: .endif", 1, 1);
        fault(".if 1\n.else 1\n.endif", 1, 1);
        fault(".if 1\n.endif 1", 1, 1);
        fault(".else", 5, 0);
        fault(".endif", 5, 0);
        fault("nop\n.if 1\n.endif\n.endif", 5, 3);
        fault("\n.if 1\n.else\n.else\n.endif", 5, 3);
        fault("\n.if 0\n.else\n.else\n.endif", 5, 3);
        fault("\n.if 0\n.if 1\n.else\n.else\n.endif\n.endif", 5, 4);
        fault("\n.if 1", 5, 1);
        fault("\n.if 0", 5, 1);
        fault("\n.if 1\n.else", 5, 1);
        fault("\n.if 1\n\n.if 1\n.endif", 5, 1);
        fault("\n.if 1\n\n.if 1\n", 5, 3);
        fault("\n.if 0\n\n.if 1\n", 5, 3);
        // lines that don't come: by their first word alone
        words(".if 0\n?\nx: x: $\n.macro\n.endm\n.endr\n.rept 500\n.if\n.else ? ?\n.endif ?\n.ifsame\n.endif\nx: .endif\n.else\nbreak 1\n.endif", "break 1");
        fault(".if 0\n.elsex\n.endifx\n..endif", 5, 0);
        words(".if 0\n  .else\nbreak 1\n   .endif", "break 1");
        words(".if 1\nbreak 1\n.else\n.endif ?? $", "break 1");
        fault(".if 0\n.else\n.endif ?", 1, 2);
    }

    private static void same() {
        words(".ifsame a,a\nbreak 1\n.endif", "break 1");
        words(".ifsame a,b\nbreak 1\n.else\nbreak 2\n.endif", "break 2");
        words(".ifsame   a  b  ,a  b\nbreak 1\n.endif", "break 1");
        words(".ifsame a b,a  b\nbreak 1\n.else\nbreak 2\n.endif", "break 2");
        words(".ifsame ,\nbreak 1\n.endif", "break 1");
        words(".ifsame,\nbreak 1\n.endif", "break 1");
        words(".ifsame   ,   \nbreak 1\n.endif", "break 1");
        words(".ifsame a,\nbreak 1\n.else\nbreak 2\n.endif", "break 2");
        words(".ifsame ,a\nbreak 1\n.else\nbreak 2\n.endif", "break 2");
        words(".ifsame a,a,a\nbreak 1\n.else\nbreak 2\n.endif", "break 2");
        words(".ifsame a,a#,b\nbreak 1\n.endif", "break 1");
        words(".ifsame $?\\x,$?\\x\nbreak 1\n.endif", "break 1");
        words(".ifsame ab,a\nbreak 1\n.else\nbreak 2\n.endif", "break 2");
        words(".ifsame a,ab\nbreak 1\n.else\nbreak 2\n.endif", "break 2");
        // what stood in the line ahead doesn't matter
        words(".byte 1,2,3,4" + many(" ", 60) + "\n.ifsame ,\nbreak 1\n.endif", ".word 67305985 / break 1");
        words("nop" + many(" ", 60) + "\n.ifsame ,\nbreak 1\n.endif", "sll $zero,$zero,0 / break 1");
        words(".word 0" + many(" ", 60) + "\n.ifsame a,a\nbreak 1\n.endif\n.if 1\nbreak 2\n.endif", "sll $zero,$zero,0 / break 1 / break 2");
        fault(".byte 1" + many(",1", 60) + "\n.ifsame a\n.endif", 1, 1);
        fault(".ifsame\n.endif", 1, 0);
        fault(".ifsame a\n.endif", 1, 0);
        fault(".ifsame a#,a\n.endif", 1, 0);
        fault("x: .ifsame a,a\n.endif", 1, 0);
    }

    private static void openIfs() {
        String eight = many(".if 1\n", 8);
        fine(eight + many(".endif\n", 8));
        fault(eight + ".if 1\n" + many(".endif\n", 9), 6, 8);
        fault(eight + ".if 0\n" + many(".endif\n", 9), 6, 8);
        fault(eight + ".ifsame a,a\n" + many(".endif\n", 9), 6, 8);
        fault(many(".if 0\n", 9) + many(".endif\n", 9), 6, 8);
        fine(eight + ".endif\n.if 1\n" + many(".endif\n", 8));
        fine(many(".if 1\n.endif\n", 100));
        fault(".macro m\n.if 1\n.endif\n.endm\n" + eight + "m\n" + many(".endif\n", 8), 6, 12);
        fine(".macro m\n.if 1\n.endif\n.endm\n" + many(".if 1\n", 7) + "m\n" + many(".endif\n", 7));
        fault(eight + ".if 1,\n", 1, 8);
    }

    private static void macros() {
        words(".macro m\nbreak 1\n.endm\nm\nm", "break 1 / break 1");
        words(".macro m a,b,c,d\nbreak \\a+\\b-\\c+\\d\n.endm\nm 1,2,3,4", "break 4");
        words(".macro m a\nbreak \\a\n.endm ? $\nm   7   ", "break 7");
        words(".macro m a,b\n\\a \\b\n.endm\nm break,5", "break 5");
        words(".macro m a\n\\a\n.endm\nm break 5", "break 5");
        words(".macro m a,b\n\\a\\b\n.endm\nm bre,ak 5", "break 5");
        words(".macro m a\nbreak 1\\a\\a\n.endm\nm 0", "break 100");
        words(".macro m a\n.globl \\a.x\n\\a.x: break 3\n.endm\nm q", "break 3");
        words(".macro m a_b,a\nbreak \\a_b\n.endm\nm 3,4", "break 3");
        words(".macro m a,ab\nbreak \\ab\n.endm\nm 3,4", "break 4");
        words(".macro m abcdefghijklmnop\nbreak \\abcdefghijklmnop\n.endm\nm 3", "break 3");
        words(".macro abcdefghijklmnop\nbreak 3\n.endm\nabcdefghijklmnop", "break 3");
        words(".macro m\n.endm\nx: m\ny: m\nbreak 1", "break 1");
        words(".macro m\n.endm\nm", "");
        words(".macro break a\nsll $t0,$t0,\\a\n.endm\nbreak 4", "sll $t0,$t0,4");
        words(".macro .word a\nbreak \\a\n.endm\n.word 4", "break 4");
        words(".macro .if\nbreak 2\n.endm\n.if\nx: .if", "break 2 / break 2");
        words(".macro .endr\nbreak 2\n.endm\n.endr", "break 2");
        words(".macro .macro a\nbreak \\a\n.endm\n.macro 4", "break 4");
        words(".macro x\nbreak 9\n.endm\nx: x", "break 9");
        fault(".macro", 1, 0);
        fault(".macro 1\n.endm", 1, 0);
        fault(".macro m,a\n.endm", 1, 0);
        fault(".macro m a b\n.endm", 1, 0);
        fault(".macro m a,\n.endm", 1, 0);
        fault(".macro m a,,b\n.endm", 1, 0);
        fault(".macro m a,b,a\n.endm", 1, 0);
        fault(".macro m a,b,c,d,e\n.endm", 1, 0);
        fault(".macro m .a\n.endm", 1, 0);
        fault(".macro m a.b\n.endm", 1, 0);
        fault(".macro m abcdefghijk.m\n.endm", 1, 0);
        for (int dot = 1; dot < 16; dot++) {
            fault(".macro m " + "abcdefghijklmnop".substring(0, dot) + ".\n.endm", 1, 0);
        }
        words(".macro m abcdefgh,abcdefgh1,abcdefgh2,bbcdefgh2\nbreak \\abcdefgh2\nbreak \\bbcdefgh2\nbreak \\abcdefgh\nbreak \\abcdefgh1\n.endm\nm 1,2,3,4",
            "break 3 / break 4 / break 1 / break 2");
        fault(".macro m abcdefgh1,abcdefgh2,abcdefgh1\n.endm", 1, 0);
        fault(".macro m abcdefgh1,abcdefgh1\n.endm", 1, 0);
        fault(".macro m abcdefghijklmnop,abcdefghijklmnop\n.endm", 1, 0);
        words(".macro abcdefgh1\nbreak 1\n.endm\n.macro abcdefgh2\nbreak 2\n.endm\n.macro bbcdefgh2\nbreak 3\n.endm\nabcdefgh2\nbbcdefgh2\nabcdefgh1", "break 2 / break 3 / break 1");
        fault(".macro m 1\n.endm", 1, 0);
        fault("x: .macro m\n.endm", 1, 0);
        fine(".macro m.n _,a1,m\n.endm");
        fault("\n.macro m\n.endm\n.macro m a\n.endm", 2, 3);
        fault("\n.macro m\nnop", 5, 1);
        fault("\n.macro m\n.endm\n.endm", 5, 3);
        fault("\n.macro m\n\n.macro n\n.endm\n.endm", 5, 3);
        fault("\n.macro m\n x: .macro n\n.endm\nnop", 0, 0);
        fault("\n.macro m\n.macro n\n.endm\n.endm\n?", 5, 2);
        fault("\n.macro m\n?\n.endm\n", 0, 0);
        fault("\n.macro m\n?\n.endm\n\nm", 1, 5);
        fault(".macro m\n.macro n\n", 5, 1);
        fault(".macro m\n\\o\n.endm\nm", 1, 3);
        fault(".macro m a\n\\a n\n.endm\nnop\nm .macro", 5, 4);
        fault(".macro m a\n\\a\n.endm\nnop\nm .endm", 5, 4);
        fault(".macro m a\n\\a\n.endm\nnop\nm .endr", 5, 4);
        fault(".rept 1\n.macro m\n.endm\n.endr", 5, 0);
        fine(".rept 0\n.macro m\n.endm\n.endr");
        words(".if 1\n.macro m\n.endif\nbreak 1\n.endm\n.endif\n.if 0\n.endif\nbreak 2", "break 2");
    }

    private static void macroArguments() {
        String none = ".macro m\nbreak 1\n.endm\n";
        String one = ".macro m a\nbreak \\a\n.endm\n";
        String two = ".macro m a,b\nbreak \\a+\\b\n.endm\n";
        words(none + "m", "break 1");
        words(none + "m   ", "break 1");
        words(none + "m # 1", "break 1");
        fault(none + "m 1", 1, 3);
        fault(none + "m ,", 1, 3);
        fault(one + "m", 1, 3);
        fault(one + "m   ", 1, 3);
        fault(one + "m ,", 1, 3);
        fault(one + "m 1,", 1, 3);
        fault(one + "m ,1", 1, 3);
        fault(one + "m 1,2", 1, 3);
        words(one + "m 1", "break 1");
        words(one + "m 1 + 2", "break 3");
        words(one + "m -1+2", "break 1");
        fault(two + "m 1", 1, 3);
        fault(two + "m 1,", 1, 3);
        fault(two + "m 1,  ", 1, 3);
        fault(two + "m ,1", 1, 3);
        fault(two + "m 1,2,", 1, 3);
        fault(two + "m 1,2,3", 1, 3);
        words(two + "m 1 , 2 ", "break 3");
        fault(".macro m a,b,c,d\n.endm\nm 1,2,3", 1, 2);
        fault(".macro m a,b,c,d\n.endm\nm 1,2,3,4,5", 1, 2);
        fine(".macro m a,b,c,d\n.endm\nm ?,$,\",\\");
        // behind a \ only a parameter or @
        fault(".macro m a\nbreak \\\n.endm\nm 1", 1, 3);
        fault(".macro m a\nbreak \\ a\n.endm\nm 1", 1, 3);
        fault(".macro m a\nbreak \\ab\n.endm\nm 1", 1, 3);
        fault(".macro m a\nbreak \\1\n.endm\nm 1", 1, 3);
        fault(".macro m a\nbreak \\\\a\n.endm\nm 1", 1, 3);
        fault(".macro m a\nbreak \\.a\n.endm\nm 1", 1, 3);
        fault(".macro m a\nbreak \\A\n.endm\nm 1", 1, 3);
        fault(".macro m abcdefghijklmnop\nbreak \\abcdefghijklmnopq\n.endm\nm 3", 1, 3);
        fault("nop\nbreak \\@", 1, 1);
        fault(".rept 1\nbreak \\@\n.endr", 1, 0);
        fault(".macro m a\nbreak \\a\n.endm\nm \\a", 1, 3);
        fine(".macro m a\nnop #\\b\n.if 0\n\\b\n.endif\n.endm\nm 1");
        // arguments of macros in one another
        String n = ".macro nnnnnnnnnnnnnnnn aaaaaaaaaaaaaaaa,bbbbbbbbbbbbbbbb,cccccccccccccccc,dddddddddddddddd\nbreak \\dddddddddddddddd+\\cccccccccccccccc+\\bbbbbbbbbbbbbbbb+\\aaaaaaaaaaaaaaaa\n.endm\n";
        String m = ".macro m a,b,c,d\nnnnnnnnnnnnnnnnn \\a+1,\\b+2,\\c,0x00000001\nbreak \\a\n.rept 2\nnnnnnnnnnnnnnnnn \\d,\\c,\\b,\\a\nbreak \\b\n.endr\nbreak \\c\nbreak \\d\n.endm\n";
        String p = ".macro p z\nm \\z,20,30,40\nbreak \\z\n.endm\n";
        String due = "break 64 / break 10 / break 100 / break 20 / break 100 / break 20 / break 30 / break 40";
        words(n + m + p + "m 10,20,30,40", due);
        words(p + m + n + "p 10", due + " / break 10");
        words(m + n + p + ".rept 1\np 10\n.endr\nnnnnnnnnnnnnnnnn 1,2,3,4", due + " / break 10 / break 10");
        // in digits without 0 ahead
        String counted = ".macro m\nn\\@: .byte 0\n.endm\n.rept 100\nm\n.endr\nm\n.align 2\n";
        for (int i : new int[] {0, 9, 10, 90, 99, 100}) {
            Due.uses(counted + ".word n" + i, "0 104 0 0 " + i + " 8  / ");
        }
        // arguments of ten macros that are open, more than a text has signs
        StringBuilder chain = new StringBuilder();
        for (int i = 1; i < 9; i++) {
            chain.append(".macro n").append(i).append(" z\nn").append(i + 1).append(" \\z\n.endm\n");
        }
        String ys = many("y", 180);
        chain.append(".macro n9 z\n.ifsame \\z,*\nbreak 5\n.endif\nbreak \\@\n.endm\n.macro n0 a,b\nn1 \\b\n.ifsame \\b,\nbreak 6\n.endif\n.ifsame x,\\b\nbreak 7\n.endif\n.endm\n");
        String open = chain.toString();
        words(open.replace("*", "y") + "n0 " + many("x", 2000) + "," + ys, "break 9");
        words(open.replace("*", "") + "n0 " + many("x", 2000) + "," + ys, "break 9");
        words(open.replace("*", many("y", 90)) + "n0 " + many("x", 2200) + "," + many("y", 90), "break 5 / break 9");
        // \@ is how many macros were called ahead
        words(".macro m\nbreak \\@\n.endm\nm\nm\nm", "break 0 / break 1 / break 2");
        words(".macro m\nbreak \\@\n.endm\n.macro n\nbreak \\@\nm\nbreak \\@\n.endm\nm\nn\nm", "break 0 / break 1 / break 2 / break 1 / break 3");
        words(".macro m\n.endm\n.macro n\nbreak \\@\n.endm\n.rept 12\nm\n.endr\nn", "break 12");
        for (int calls : new int[] {1, 9, 10, 89, 90, 99, 100}) {
            words(".macro m\n.endm\n.macro n\nbreak \\@\n.endm\n.rept " + calls + "\nm\n.endr\nn", "break " + calls);
        }
        words(".macro m\n.endm\n.macro n\nbreak \\@\n.endm\n.rept 10\n.rept 99\nm\n.endr\n.endr\nn", "break 990");
        words(".macro m\n.endm\n.macro n\nbreak \\@-1000\n.endm\n.rept 20\n.rept 50\nm\n.endr\n.endr\nn", "break 0");
        words(".macro m\n.endm\n.macro n\nbreak \\@0\n.endm\n.rept 100\nm\n.endr\nn", "break 1000");
        words(".macro m a\n.rept 2\nbreak \\a\\@\n.endr\n.endm\n.rept 2\nm 1\n.endr", "break 10 / break 10 / break 11 / break 11");
        words(".macro m a\nn \\a+1\nbreak \\a\n.endm\n.macro n a\nbreak \\a\n.endm\nm 5", "break 6 / break 5");
    }

    private static void repts() {
        words(".rept 3\nbreak 1\n.endr", "break 1 / break 1 / break 1");
        words(".rept 0\nbreak 1\n.endr\nbreak 2", "break 2");
        words(".rept 0\n?\n.endr x", "");
        words(".rept 5\n.endr", "");
        words(".rept 2\nbreak 1\n.rept 2\nbreak 2\n.endr\n.endr ?", "break 1 / break 2 / break 2 / break 1 / break 2 / break 2");
        words(".rept 2\n.rept 0\n?\n.endr\nbreak 1\n.endr", "break 1 / break 1");
        words(".set k,0\n.rept 3\n.set k,k+1\nbreak k\n.endr", "break 1 / break 2 / break 3");
        words(".set k,3\n.rept k\n.set k,5\nbreak 1\n.endr", "break 1 / break 1 / break 1");
        words(".rept 2\n.if 1\nbreak 1\n.endif\n.endr", "break 1 / break 1");
        fault("\n.rept 1", 5, 1);
        fault("\n.rept 0", 5, 1);
        fault("\n.rept 2\n.rept 1\n.endr\n", 5, 1);
        fault("\n.rept 0\n.rept 1\n.endr\n", 5, 1);
        fault("\n.rept 1\nnop\n x: .endr", 5, 1);
        fault("\n.endr", 5, 1);
        fault(".rept 1\n.endr\n.endr", 5, 2);
        fault("x: .rept 1\n.endr", 1, 0);
        fault("x: .endr", 1, 0);
        fault(".rept\n.endr", 1, 0);
        fault(".rept x\n.endr", 1, 0);
        fault(".rept 1f\n1: .endr", 1, 0);
        fault(".rept 1 1\n.endr", 1, 0);
        fault(".rept 100,\n.endr", 1, 0);
        fault("\n.rept 2\nnop\n?\n.endr", 1, 1);
        fault("\n.rept 2\nx:\n.endr", 2, 1);
        fault("\n.rept 3\n.rept 2\nnop\nbreak 1024\n.endr\n.endr", 3, 1);
        // each closes the .ifs that it opens, and none but these
        fault("\n.rept 1\n.if 1\n.endr\n.endif", 5, 1);
        fault("\n.rept 1\n.if 0\n.endr\n.endif", 5, 1);
        fault("\n.if 1\n.rept 1\n.endif\n.endr", 5, 2);
        fault("\n.if 1\n.rept 1\n.else\n.endr\n.endif", 5, 2);
        fault("\n.rept 1\n.endif\n.endr", 5, 1);
        fault(".macro m\n.if 1\n.endm\n\nm\n.endif", 5, 4);
        fault(".macro m\n.endif\n.endm\n.if 1\nm", 5, 4);
        fault(".macro m\n.else\n.endm\n.if 1\nm\n.endif", 5, 4);
        fault(".macro m\n.endif\n.endm\n\n.rept 1\n.if 1\nm\n.endr", 5, 4);
        fine(".macro m\n.endif\n.endm\n.if 0\nm\n.endif");
        fine(".macro m\n.if 1\n.else\n.endif\n.endm\n.if 1\nm\n.else\n.endif");
    }

    private static void openOnes() {
        String ten = many(".rept 1\n", 10);
        String close = many(".endr\n", 10);
        fine(ten + close);
        words(ten + "break 1\n" + close + "break 2", "break 1 / break 2");
        words(many(".rept 2\n", 3) + "break 1\n" + many(".endr\n", 3) + "break 2", many("break 1 / ", 8) + "break 2");
        fault(ten + ".rept 1\n.endr\n" + close, 6, 0);
        fine(ten + ".rept 0\n.endr\n" + close);
        fine(ten + ".if 0\n.rept 1\n.endr\n.endif\n" + close);
        fault("nop\n" + ten + ".rept 1\n.endr\n" + close, 6, 1);
        String m = ".macro m\nnop\n.endm\n";
        fine(m + many(".rept 1\n", 9) + "m\n" + many(".endr\n", 9));
        fault(m + ten + "m\n" + close, 6, 3);
        fine(m + many(".rept 1\n", 9) + many("m\n", 20) + many(".endr\n", 9));
        fault(m + ten + "m 1\n" + close, 1, 3);
        fault("\n.macro m\nm\n.endm\nm", 6, 4);
        fault("\n.macro m\n.rept 1\nm\n.endr\n.endm\nm", 6, 6);
        StringBuilder chain = new StringBuilder();
        for (int i = 0; i < 11; i++) {
            chain.append(".macro n").append(i).append('\n').append(i < 10 ? "n" + (i + 1) : "break 1").append("\n.endm\n");
        }
        words(chain + "n1", "break 1");
        fault(chain + "n0", 6, 33);
        fault(".macro m a\n.if \\a\nm \\a-1\n.endif\n.endm\nm 8", 6, 5);
        words(".macro m a\n.if \\a\nbreak \\a\nm \\a-1\n.endif\n.endm\nm 7", "break 7 / break 6 / break 5 / break 4 / break 3 / break 2 / break 1");
    }

    /** Names from n0 on, each in its place of a line. */
    private static String each(String line, int count) {
        StringBuilder text = new StringBuilder();
        for (int i = 0; i < count; i++) {
            text.append(line.replace("*", Integer.toString(i, 36)));
        }
        return text.toString();
    }

    private static void tooMuchOfNames() {
        fine(each(".macro n*\n.endm\n", 12));
        fault(each(".macro n*\n.endm\n", 12) + ".macro x\n.endm", 6, 24);
        fault(each(".macro n*\n.endm\n", 12) + ".macro x a,b,c,d\n.endm", 6, 24);
        fault(each(".macro n*\n.endm\n", 12) + ".macro x a,b,c,a\n.endm", 1, 24);
        fault(each(".macro n*\n.endm\n", 12) + ".macro x a,b,c,d,e\n.endm", 1, 24);
        fine(each(".macro n* a,b,c,d\n.endm\n", 12) + each("n* 1,2,3,4\n", 12));
        fine(each(".data n*\n", 63));
        fine(each(".data n*\n", 63) + ".text\n.data n5");
        fault(each(".data n*\n", 63) + ".data x", 6, 63);
        fault(each(".data n*\n", 63) + ".data", 6, 63);
        String many = ".macro m\n*\n.endm\n.rept 6\n.rept 100\nm\n.endr\n.endr\n";
        String labels = many.replace("*", "n\\@:");
        fine(labels + "1: 2: 1:");
        fault(labels + "x:", 6, 8);
        fault(labels + "1: x: y: $", 6, 8);
        fault(labels + "n599:", 2, 8);
        String globals = many.replace("*", ".globl n\\@");
        fine(globals + ".globl n5\n.kind n6,3\n.want x,1\n.set y,1\nz:");
        fault(globals + ".globl x", 6, 8);
        fault(globals + ".kind x,1", 6, 8);
        fault(globals + "x: .globl x", 6, 8);
        String both = ".macro m\n.globl n\\@\n.kind n\\@,1\n.kind k\\@,1\n.endm\n.rept 3\n.rept 100\nm\n.endr\n.endr\n";
        fine(both + ".globl k7");
        fault(both + ".kind x,1", 6, 10);
        String wants = many.replace("*", ".want n,1");
        fine(wants);
        fault(wants + ".want n,1", 6, 8);
        fault(wants + ".want n,16", 3, 8);
        String constants = many.replace("*", ".set n\\@,1").replace("6", "2");
        fine(constants + ".set n7,5\n.set n199,n7");
        fault(constants + ".set x,1", 6, 8);
        fault(constants + ".set x,n", 1, 8);
        fault(constants + ".globl x\n.set x,1", 6, 9);
        fault(constants + ".kind sll,1\n.set sll,1", 6, 9);
        fault(constants + ".word x\n.set x,1", 6, 9);
        fine(constants.replace(".rept 2\n", ".rept 1\n") + ".globl x\n.set x,1\n.set sll,1");
        fault(globals + ".set x,1\n.globl x", 6, 9);
        fine(".rept 8\n.rept 100\n.globl sll\n.kind x,1\n.set sll,1\n.endr\n.endr");
        fault(globals + "sll: .kind sll,1", 6, 8);
    }

    /** Each text begins anew: what one told, the next one doesn't know. */
    private static void anew() {
        String[] texts = {
            each(".macro n*\n.endm\n", 12), each(".data n*\n", 63), ".macro m\nn\\@:\n.endm\n.rept 6\n.rept 100\nm\n.endr\n.endr", ".macro m\n.globl n\\@\n.endm\n.rept 6\n.rept 100\nm\n.endr\n.endr",
            ".macro m\n.set n\\@,1\n.endm\n.rept 2\n.rept 100\nm\n.endr\n.endr", ".macro m\n.want n,1\n.endm\n.rept 6\n.rept 100\nm\n.endr\n.endr", many(".space 4096\n", 4),
            ".rept 30\n.rept 10\n.word x,x,x,x,x,x,x,x,x,x\n.endr\n.endr", ".macro m\n\n\n.endm" + many("\n.rept 100\nm\n.endr", 13) + many("\n", 57), many(".if 1\n", 8) + many(".endif\n", 8),
            many(".rept 1\n", 10) + many(".endr\n", 10), "1: .word 1b", ".word 1f\n1:", "x: .set k,1", "k: .set x,1", "sll: .set srl,1\n.globl sra", ".set sll,1\nsrl:", ".noreorder", "nop\njr $ra", ".macro m\nbreak \\@\n.endm\nm",
        };
        String[] faults = {".if 1", ".rept 1", ".macro m", "1: .word 2f", ".macro m\nm\n.endm\nm", ".rept 1\n.if 0\n?\n.endr", "x: .data\n?", "?"};
        ToolMill mill = new ToolMill();
        for (int round = 0; round < 3; round++) {
            for (int i = 0; i < texts.length; i++) {
                String text = texts[i];
                String wrong = faults[i % faults.length];
                Due.is("assemble() again of " + Due.shown(text), () -> Due.assemble(mill, text), 0);
                Due.is("no fault", () -> mill.fault(0), 0);
                mill.forget();
                Due.is("assemble() again of " + Due.shown(wrong), () -> Due.assemble(mill, wrong), -1);
            }
            Due.assemble(mill, "nop\n.macro m\nbreak \\@\n.endm\njr $ra\nm\n");
            Due.same("words of jr ahead", Due.listing(mill, 0, 0), "jr $ra\nsll $zero,$zero,0\nbreak 0\n");
            mill.forget();
            Due.assemble(mill, ".macro nop\nbreak 9\n.endm\n.macro a\n.endm\nnop\nnop\nx: 1: nop");
            mill.forget();
            Due.is("assemble() of what is no macro any more", () -> Due.assemble(mill, "nop\nnop\njr $ra\n.macro m nop,a\n.endm\nm 1,2"), 0);
            Due.same("its words, and the slot is filled", Due.listing(mill, 0, 0), "sll $zero,$zero,0\njr $ra\nsll $zero,$zero,0\n");
            mill.forget();
            Due.is("a is no operation any more", () -> Due.assemble(mill, "a"), -1);
            Due.assemble(mill, "nop\n.macro m\nbreak \\@\n.endm\njr $ra\nm\n");
            Due.same("words behind all that", Due.listing(mill, 0, 0), "jr $ra\nsll $zero,$zero,0\nbreak 0\n");
            mill.forget();
            Due.assemble(mill, ".word abcdefghijklmnop,abcdefghijklmnop");
            Due.is("16th sign of a name", () -> mill.relocation(0, 1, 25), (int) 'p');
            mill.forget();
            Due.assemble(mill, "1: .word 1b,1f\n1:");
            for (int k = 10; k < 27; k++) {
                int what = k;
                Due.is("no sign of it then", () -> mill.relocation(0, 0, what) + mill.relocation(0, 1, what), -2);
            }
            mill.forget();
            Due.is("a backward reference of the text ahead isn't there", () -> Due.assemble(mill, ".word 1b"), -1);
            Due.is("fault 4", () -> mill.fault(0), 4);
        }
    }

    private static void tooMuchOfUses() {
        // 2990 uses, then up to 3000
        String uses = ".rept 23\n.rept 13\n.word x,x,x,x,x,x,x,x,x,x\n.endr\n.endr\n";
        fine(uses + ".word x,x,x,x,x,x,x,x,x,x");
        fault(uses + ".word x,x,x,x,x,x,x,x,x,x,x", 6, 5);
        fine(uses + ".word x,x,x,x,x,x,x,x\nla $t0,x");
        fault(uses + ".word x,x,x,x,x,x,x,x,x\nla $t0,x", 6, 6);
        fault(uses + ".word x,x,x,x,x,x,x,x,x\nlw $t0,x", 6, 6);
        fine(uses + ".word x,x,x,x,x,x,x,x,x\nb x");
        fault(uses + ".word x,x,x,x,x,x,x,x,x,x\nx: b x", 6, 6);
        fault(uses + ".word x,x,x,x,x,x,x,x,x,x\njal x", 6, 6);
        fault(uses + "1: .word 1b,x,x,x,x,x,x,x,x,1f\naddiu $t0,$t0,%lo(x)\n1:", 6, 6);
        fine(uses + ".word x,x,x,x,x,x,x,x,x,x\n.word 5\naddiu $t0,$t0,%lo(5)\n.want x,1\n.globl x");
    }

    private static void tooMuchOfBytes() {
        String full = many(".space 4096\n", 4);
        fine(full);
        fine(full + ".space 0\n.align 4");
        fault(full + ".space 1", 6, 4);
        fault(full + ".byte 1", 6, 4);
        fault(full + ".data\n.half 1", 6, 5);
        fault(full + "nop", 6, 4);
        fault(full + ".word 1", 6, 4);
        String near = many(".space 4096\n", 3) + ".space 4088\n";
        fine(near + "nop\nnop");
        fine(near + "jr $ra");
        fault(near + "nop\nnop\nnop", 6, 6);
        fault(near + ".word 1\njr $ra", 6, 5);
        fine(near + ".word 1\n.noreorder\njr $ra");
        // the last one goes into the slot, so that four bytes are enough
        fine(near + "nop\njr $ra");
        fault(near + "syscall\njr $ra", 6, 5);
        fine(near + "lw $t0,x");
        fault(near + ".word 1\nlw $t0,x", 6, 5);
        fault(near + ".word 1\nli $t0,65537", 6, 5);
        fine(near + ".word 1\nli $t0,65536");
        fault(near + ".word 1,2,3", 6, 4);
        fault(near + ".half 1,2,3,4,5", 6, 4);
        fine(near + ".half 1,2,3,4");
        fine(near + ".data\n.byte 1,2,3,4,5,6,7,8");
        fault(near + ".data\n.byte 1,2,3,4,5,6,7,8,9", 6, 5);
        fine(near + ".data\n.byte 1\n.align 3");
        fault(near + ".data\n.byte 1\n.align 4", 6, 6);
        fault(near + ".data\n.space 9", 6, 5);
        fine(near + ".data\n.space 8");
    }

    private static void tooManyLines() {
        // 4 lines of the macro, and 13 times 3 and 100 times 3: 3943
        String macros = ".macro m\n\n\n.endm" + many("\n.rept 100\nm\n.endr", 13);
        fine(macros + many("\n", 57));
        fault(macros + many("\n", 58), 6, 42 + 58);
        fault(macros + many("\n", 57) + "?\n", 1, 42 + 57);
        fault(macros + many("\n", 57) + "\n?", 6, 42 + 58);
        fault(macros + many("\n", 57) + "\nx: x: \\", 6, 42 + 58);
        // the call is the 3998th, its lines the two behind it
        fine(macros + many("\n", 55) + "m");
        fault(macros + many("\n", 56) + "m", 6, 42 + 56);
        fault(macros + many("\n", 57) + "m", 6, 42 + 57);
        // a wrong \ in the 4000th line, and in the 4001st
        String wrong = macros.replace(".macro m\n\n\n.endm", ".macro m\n\n\n.endm\n.macro n\n\\b\n.endm");
        fault(wrong + many("\n", 53) + "n", 1, 45 + 53);
        fault(wrong + many("\n", 54) + "n", 6, 45 + 54);
        // lines that don't come, and lines that are kept
        fine(macros + "\n.if 0" + many("\n", 55) + "\n.endif");
        fault(macros + "\n.if 0" + many("\n", 56) + "\n.endif", 6, 42 + 58);
        fine(macros + "\n.macro k" + many("\n", 55) + "\n.endm");
        fault(macros + "\n.macro k" + many("\n", 56) + "\n.endm", 6, 42 + 58);
        fine(macros + "\n.rept 0" + many("\n", 55) + "\n.endr");
        fault(macros + "\n.rept 0" + many("\n", 56) + "\n.endr", 6, 42 + 58);
        // kept once, and then each time that it comes: 1 + 1 + 1 + 54
        fine(macros + "\n.rept 54\n\n.endr");
        fault(macros + "\n.rept 55\n\n.endr", 6, 43);
        fault(macros + "\n.rept 54\n\n.endr\n", 6, 46);
    }

    private static void longLines() {
        // .ifsame and a blank are 8 signs
        String body = ".macro m a\n.ifsame \\a,\n.endif\n.endm\n";
        fine(body + "m " + many("y", 191));
        fault(body + "m " + many("y", 192), 6, 4);
        fault("nop\n" + body + "m " + many("y", 2000), 6, 5);
        fine(".macro m a\n.if 0\n\\a\\a\n.endif\n.endm\nm " + many("y", 200));
        fault(".macro m a\n\\a\\a\n.endm\nm " + many("y", 200), 6, 3);
        fault(".macro m a\n\\a\\a\\b\n.endm\nm " + many("y", 200), 1, 3);
        fault(".macro m a\n\\b\\a\\a\n.endm\nm " + many("y", 200), 1, 3);
        fault(".macro m a\n\\a" + many(" ", 200) + "\n.endm\nm nop", 6, 3);
        fine(".macro m a\n\\a" + many(" ", 197) + "\n.endm\nm nop");
        fault(".macro m a\n\\a" + many(" ", 198) + "\n.endm\nm nop", 6, 3);
        fault(".macro m a\n.rept 1\n\\a" + many(" ", 198) + "\n.endr\n.endm\nm nop", 6, 5);
        fine("nop" + many(" ", 2000));
        fine(".rept 2\nnop" + many(" ", 2000) + "\n.endr");
        fine(".macro m\nnop#" + many("x", 300) + "\n.endm\nm");
    }

    /** Of one line: its labels from left to right, then 1, 2, 3, 4, 5, 6 of the rest. */
    private static void order() {
        fault("x: x: ?", 2, 0);
        fault("5: 55: x: x:", 1, 0);
        fault("x: 55: x:", 1, 0);
        fault("x: x: 55:", 2, 0);
        fault("x:\n.set x,1024 5", 1, 1);
        fault("x:\n.set x,y", 1, 1);
        fault(".data x\n.text x,", 1, 1);
        fault(".byte 1\nbreak 1024 1", 1, 1);
        fault(".byte 1\n.word 1b", 3, 1);
        fault(".byte 1\nlw $t0,1b", 3, 1);
        fault("beq $t0,$t1,1b,", 1, 0);
        fault(".macro m\n.endm\n.rept 1\n.macro m\n.endm\n.endr", 2, 2);
        fault(".rept 1\n.macro m 1\n.endm\n.endr", 1, 0);
        fault(".rept 101", 3, 0);
        fault(".rept 1,", 1, 0);
        // lines in order, then uses in order
        fault("b x+1\nbreak 1024\nx:", 3, 1);
        fault("b x+1\n.word 1b\nx:", 4, 1);
        fault("b 1f\nx: x:", 2, 1);
        fault("b 1f\n.if 1", 5, 1);
        fault("b x+1\nb 1f\nx:", 3, 0);
        fault("b 1f\nb x+1\nx:", 4, 0);
        fault("la $t0,x\nb x+2\nb 1f\nx:", 3, 1);
        fault(".data\n.word 1f\n.text\nb x+2\nx:", 4, 1);
        fault("\nx:\n.rept 2\nb x+1\n.endr", 3, 2);
    }

    public static void main(String[] args) {
        conditions();
        same();
        openIfs();
        macros();
        macroArguments();
        repts();
        openOnes();
        tooMuchOfNames();
        anew();
        tooMuchOfUses();
        tooMuchOfBytes();
        tooManyLines();
        longLines();
        order();
        Due.finish("ToolMillEdgesLines");
    }
}
