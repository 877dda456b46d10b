/** The edges that sections 1, 2 and 3 of the document name: texts, the language, a unit's assembly. */
public final class ToolMillEdgesLanguage {
    private ToolMillEdgesLanguage() {
    }

    private static void place(String text, int kind, int place) {
        Due.place(text, kind, place);
    }

    /** A text with an @ (left out of the text itself) where its fault is due. */
    private static void at(String marked, int kind) {
        int place = marked.indexOf('@');
        place(marked.replace("@", ""), kind, place);
    }

    private static void fine(String text) {
        place(text, 0, 0);
    }

    /** Section 1: at most 3000 signs, 32 .. 126 and line ends. */
    private static void signs() {
        for (int sign = 0; sign < 256; sign++) {
            boolean taken = sign == 10 || sign >= 32 && sign <= 126;
            for (int k = 0; k < 4; k++) {
                ToolMill mill = new ToolMill();
                int four = sign << 8 * k;
                Due.is("put() of " + sign + " as byte " + k, () -> mill.put(four), sign == 0 ? "0" : taken ? "1" : Due.ILLEGAL_ARGUMENT);
                Due.is("signs behind put() of " + sign, () -> mill.put(0), taken ? 1 : 0);
            }
        }
        ToolMill mill = new ToolMill();
        mill.put('v' | 'a' << 16);
        mill.put('r' << 24);
        mill.put(' ' | 'a' << 8 | ';' << 24);
        Due.is("the lowest byte comes first, 0 is left out", mill::source, 0);
        Due.is("so that a is declared", () -> mill.label(0, 0, 10), (int) 'a');
        place("var a;" + " ".repeat(2994), 0, 0);
        place(" ".repeat(2994) + "var a;", 0, 0);
        place(" ".repeat(2995) + "var a", 1, 3000);
        place("\n".repeat(3000), 0, 0);
        place(";".repeat(3000), 1, 0);
        place("(".repeat(3000), 1, 0);
        place("a;".repeat(1500), 1, 0);
        place("proc f(){" + ";".repeat(2991), 1, 9);
        // as many uses of names, locals and statements as there can be
        place("proc f(){x=a" + "+a".repeat(1493) + ";}", 4, 3000);
        place("proc f(){x=a" + "+a".repeat(1300) + ";}", 0, 0);
        place("proc f(){" + "f();".repeat(747) + "}  ", 0, 0);
        place("proc f(){" + "if(1){}".repeat(427) + "}", 0, 0);
        place("proc f(){" + "while(1){}".repeat(299), 1, 2999);
        place("proc f(){" + "while(1){}".repeat(298) + "}", 0, 0);
        place("proc f(){" + "var a;".repeat(498) + "}", 2, 19);
        place("proc f(){" + "if(1){var a;}".repeat(230) + "}", 0, 0);
        place("proc f(){x=" + "1+".repeat(1000) + "1;}", 0, 0);
        place("#".repeat(3000), 0, 0);
    }

    /** Section 1: at most six units, with the numbers 0, 1, .. */
    private static void units() {
        ToolMill mill = new ToolMill();
        for (int i = 0; i < 6; i++) {
            int k = i;
            Due.is("unit " + i, () -> k % 2 == 0 ? Due.source(mill, "var a" + k + ";") : Due.assemble(mill, "nop"), i);
            Due.is("in the language: " + i, () -> mill.unit(k, 0), 1 - i % 2);
            Due.is("no unit behind it", () -> k == 5 ? mill.unit(7, 0) : mill.unit(k + 1, 0), Due.NO_ELEMENT);
        }
        Due.is("a seventh", mill::source, Due.ILLEGAL_STATE);
        Due.is("a seventh", mill::assemble, Due.ILLEGAL_STATE);
        for (int i = 0; i < 6; i++) {
            int k = i;
            Due.is("unit " + i + " stays", () -> mill.unit(k, 0), 1 - i % 2);
        }
        mill.forget();
        Due.is("a fault takes no number", () -> Due.source(mill, "var"), -1);
        Due.is("no unit with a fault", () -> mill.unit(0, 0), Due.NO_ELEMENT);
        Due.is("the number is still to come", () -> Due.source(mill, "var b;"), 0);
        // a number that one in the language had becomes one in assembly, with fewer of all
        mill.forget();
        Due.is("a unit in the language", () -> Due.source(mill, "var a;var b[3];proc f(){a=b[1];}"), 0);
        mill.forget();
        Due.is("one in assembly", () -> Due.assemble(mill, "nop"), 0);
        Due.is("it is in assembly", () -> mill.unit(0, 0), 0);
        Due.is("it has no typed signs", () -> mill.typed(0, 0), Due.NO_ELEMENT);
        Due.is("its sections", () -> mill.unit(0, 1), 1);
        Due.is("no second section", () -> mill.section(0, 1, 0), Due.NO_ELEMENT);
        Due.is("no byte of it", () -> mill.byteOf(0, 1, 0), Due.NO_ELEMENT);
        Due.is("no name of it", () -> mill.byteOf(0, 1, -1), Due.NO_ELEMENT);
        Due.is("no label", () -> mill.label(0, 0, 0), Due.NO_ELEMENT);
        Due.is("no relocation", () -> mill.relocation(0, 0, 0), Due.NO_ELEMENT);
        // the unit of link()'s fault is not that of the next one
        Due.is("link() without main", () -> mill.link(0, 512), -1);
        Due.is("its unit", () -> mill.fault(2), 6);
        Due.is("a fault of source()", () -> Due.source(mill, "?"), -1);
        Due.is("no unit", () -> mill.fault(2), -1);
        Due.is("link() without main", () -> mill.link(0, 512), -1);
        Due.is("a unit without fault", () -> Due.assemble(mill, "nop"), 1);
        Due.is("no unit of a fault", () -> mill.fault(2), -1);
        Due.is("no line of a fault", () -> mill.fault(1), -1);
        Due.is("no kind of a fault", () -> mill.fault(0), 0);
    }

    /** The signs behind end() don't count, whatever stood there. */
    private static void ends() {
        String language = "proc f(abcdefgh,b){var a[200];#x y\na[b]=2147483647<<12+abcdefgh==in()*-g[b];if(a[0]<=b){while(1){out(!b);}}else{return ~b;}}var g[12];";
        String assembly = ".macro m a,b\nli $t0,\\a+0x12ab\n.endm\nabcdefghijklmnop: m 5,6 # x\n1: b 1b\n.if 1\nlw $t0,%lo(abcdefghijklmnop)($sp)\n.endif\n.rept 2\n.word 4294967295,1f\n.endr\n"
            + "1:\n.ifsame ab , ab\n.byte 255\n.endif\n.noreorder\n.want x,12";
        String wrong = "proc f(){x=99999999999;abcdefghijk=2147483648==y;}";
        for (String text : new String[] {language, assembly, wrong}) {
            ToolMill mill = new ToolMill();
            for (int n = text.length(); n >= 0; n--) {
                ToolMill other = new ToolMill();
                Due.write(other, text.substring(0, n));
                Due.write(mill, text);
                mill.end(n);
                String what = " of the first " + n + " signs of " + Due.shown(text);
                int signs = n;
                Due.is("signs" + what, () -> mill.put(0), signs);
                Due.is("source()" + what, mill::source, other.source());
                Due.is("kind" + what, () -> mill.fault(0), other.fault(0));
                Due.is("place" + what, () -> mill.fault(1), other.fault(1));
                mill.forget();
                other.forget();
                Due.is("assemble()" + what, mill::assemble, other.assemble());
                Due.is("kind in assembly" + what, () -> mill.fault(0), other.fault(0));
                Due.is("line" + what, () -> mill.fault(1), other.fault(1));
                mill.forget();
            }
        }
        ToolMill full = new ToolMill();
        Due.write(full, " ".repeat(2992) + "var abcd");
        full.end(2999);
        Due.is("end(2999)", () -> full.put('x'), 3000);
        full.end(3000);
        Due.is("end(3000) of a full text", full::source, -1);
        Due.is("place of the end", () -> full.fault(1), 3000);
        full.end(2999);
        Due.is("put() behind end()", () -> full.put(';'), 3000);
        Due.is("source() then", full::source, 0);
    }

    /** Each text begins anew: names, locals and labels of the one ahead are gone. */
    private static void anew() {
        String[] texts = {
            "var sll;proc f(a){var b;if(a){var c;}while(b){}c=1;}", "proc sll(a){a=b;}proc b2(){c();}", "proc b(){var sll[3];f();c[1]=1;}", "var a;var b;var c;var f;",
            "proc f(){x=" + Due.many("(", 19) + "1" + Due.many(")", 19) + ";}", "proc f(a,b,c,d){var e[9];x=1+(2+g(h()));while(x){}}", "proc f(){x=1;if(x){}}", "var a[9];proc f(){}",
        };
        String[] faults = {"proc f(){((", "var a;var a;", "proc f(a){a();b();}", "proc f(){var a[200];var b[200];var c;}", "proc f(){if(1){while(2){var q;"};
        ToolMill mill = new ToolMill();
        for (int round = 0; round < 3; round++) {
            for (int i = 0; i < texts.length; i++) {
                String text = texts[i];
                String wrong = faults[i % faults.length];
                ToolMill other = new ToolMill();
                Due.is("source() again of " + text, () -> Due.source(mill, text), Due.source(other, text));
                Due.same("assembly of " + text, Due.typed(mill, 0), Due.typed(other, 0));
                mill.forget();
                Due.is("source() again of " + wrong, () -> Due.source(mill, wrong), -1);
            }
        }
    }

    private static void words() {
        fine("var a;");
        fine("var abcdefgh;");
        fine("var a2345678;");
        at("var @abcdefghi;", 1);
        at("var @a23456789;", 1);
        at("proc f(){x=@abcdefghi;}", 1);
        at("proc @abcdefghi(){}", 1);
        at("var @2a;", 1);
        at("var a@_b;", 1);
        at("var a@B;", 1);
        at("var @_a;", 1);
        at("var a @b;", 1);
        at("@vara;", 1);
        fine("var\na\n;\n");
        fine("var varr;var in2;var ifx;");
        at("@abcdefghi", 1);
        at("var a;@abcdefghi", 1);
        at("var a;@2147483648", 1);
        // words of the assembly are no keywords here
        for (String word : new String[] {"sll", "sw", "nop", "ble", "b", "zero", "sp"}) {
            fine("var " + word + ";proc f(){" + word + "=" + word + "+1;}");
            fine("var " + word + "[2];proc f(){" + word + "[1]=" + word + "[0];}");
            fine("proc " + word + "(){" + word + "();}");
            fine("proc f(" + word + "){" + word + "=" + word + ";}");
            fine("proc f(){var " + word + ";" + word + "=" + word + ";}");
            fine("proc f(){" + word + "=1;x=" + word + ";}");
            at("proc f(){" + word + "=1;@" + word + "();}", 3);
            at("var " + word + ";var @" + word + ";", 2);
        }
        for (String keyword : new String[] {"var", "proc", "if", "else", "while", "return", "out", "in"}) {
            at("var @" + keyword + ";", 1);
            at("proc @" + keyword + "(){}", 1);
            at("proc f(@" + keyword + "){}", 1);
            at("proc f(){var @" + keyword + ";}", 1);
        }
        at("proc f(){@in=1;}", 1);
        at("proc f(){@in();}", 1);
        at("proc f(){x=@out(1);}", 1);
        at("proc f(){x=in@;}", 1);
    }

    private static void numbers() {
        fine("proc f(){x=0;}");
        fine("proc f(){x=2147483647;}");
        at("proc f(){x=@2147483648;}", 1);
        at("proc f(){x=@9999999999;}", 1);
        fine("proc f(){x=0000000000;}");
        fine("proc f(){x=0000000007;}");
        at("proc f(){x=@00000000007;}", 1);
        at("proc f(){x=@12345678901234567890123;}", 1);
        at("proc f(){x=12@ab;}", 1);
        at("proc f(){x=12 @3;}", 1);
        at("proc f(){x=1@in();}", 1);
        at("proc f(){x=0@x10;}", 1);
        fine("var a[0000000200];");
        at("var a[@00000000200];", 1);
    }

    private static void tokens() {
        fine("proc f(){x=1==1;x=1!=1;x=1<1;x=1<=1;x=1<<1;x=1>>1;x=1+1-1*1/1%1&1|1^1;x=!1;x=~1;x=-1;a[1]=1;}");
        at("proc f(){x=1==@", 1);
        at("proc f(){x=1!=@", 1);
        at("proc f(){x=1<=@", 1);
        at("proc f(){x=1<<@", 1);
        at("proc f(){x=1>>@", 1);
        at("proc f(){x=1<@", 1);
        at("proc f(){x=1@>", 1);
        at("proc f(){x@==", 1);
        at("proc f(){x=1<<@=2;}", 1);
        at("proc f(){x=1< @< 2;}", 1);
        at("proc f(){x=1<<@< 2;}", 1);
        at("proc f(){x=1==@=2;}", 1);
        at("proc f(){x=1!=@=2;}", 1);
        at("proc f(){x=1<=@=2;}", 1);
        at("proc f(){x=1@= = 2;}", 1);
        at("proc f(){x=1@!2;}", 1);
        at("proc f(){x=1@>2;}", 1);
        at("proc f(){x=1@>=2;}", 1);
        at("proc f(){x=1>>@>2;}", 1);
        at("proc f(){x=1@> >2;}", 1);
        at("proc f(){x=1&@&2;}", 1);
        at("proc f(){x=1|@|2;}", 1);
        at("proc f(){x=1@~2;}", 1);
        at("proc f(){x@==1;}", 1);
        fine("proc f(){x=!!1;x=! 1;x=~-!1;}");
        at("proc f(){x=@!=1;}", 1);
        at("proc f(){x=@+1;}", 1);
        fine("proc f(){x=1- -1;x=1--1;}");
        for (char sign : "\"$'.:?@A_`Z\\".toCharArray()) {
            place("var a;" + sign, 1, 6);
            place("var " + sign, 1, 4);
        }
        fine("#?$\nvar a;#\"\n#");
        fine("var a#b\n;");
        at("var a#;@", 1);
        fine("var#\na#\n;");
        at("@v#\nar a;", 1);
    }

    private static void declarations() {
        fine("");
        fine(" \n ");
        fine("var a[1];");
        fine("var a[200];");
        at("var a[@0];", 1);
        at("var a[@201];", 1);
        at("var a[@2147483647];", 1);
        at("var a[@-1];", 1);
        at("var a[@n];", 1);
        at("var a[@];", 1);
        at("var a[1@;", 1);
        at("var a[1]@", 1);
        at("var a@,b;", 1);
        at("var a@=1;", 1);
        at("var a@(", 1);
        at("proc f(){var a[@0];}", 1);
        at("proc f(){var a[@201];}", 1);
        fine("proc f(){var a[1];}");
        fine("proc f(){var a[200];}");
        fine("proc f(){}");
        fine("proc f(a){}");
        fine("proc f(a,b,c,d){}");
        at("proc f(a,b,c,d@,e){}", 1);
        at("proc f(a @b){}", 1);
        at("proc f(@,a){}", 1);
        at("proc f(a,@){}", 1);
        at("proc f(@1){}", 1);
        at("proc f(a@[1]){}", 1);
        at("proc f@{}", 1);
        at("proc f()@;", 1);
        at("proc f(){}@}", 1);
        at("proc f(){}@;", 1);
        at("@;", 1);
        at("@if(1){}", 1);
        at("var a@", 1);
        at("proc f(@", 1);
        at("proc f(a@", 1);
    }

    private static void statements() {
        fine("proc f(){f();f();}");
        fine("proc f(){g(1,2,3,4);}");
        at("proc f(){g(1,2,3,4@,5);}", 1);
        at("proc f(){x=g(1,2,3,4@,5);}", 1);
        at("proc f(){g(@,1);}", 1);
        at("proc f(){g(1,@);}", 1);
        at("proc f(){g(1@;}", 1);
        at("proc f(){g()@}", 1);
        at("proc f(){g()@=1;}", 1);
        at("proc f(){a[1]@;}", 1);
        at("proc f(){a[@]=1;}", 1);
        at("proc f(){a[1@=1;}", 1);
        at("proc f(){x=@;}", 1);
        at("proc f(){x@;}", 1);
        at("proc f(){@1;}", 1);
        at("proc f(){@;}", 1);
        at("proc f(){@{}}", 1);
        at("proc f(){if @1{}}", 1);
        at("proc f(){if(@){}}", 1);
        at("proc f(){if(1)@x=1;}", 1);
        at("proc f(){if(1){}@;}", 1);
        at("proc f(){if(1){}else @if(1){}}", 1);
        fine("proc f(){if(1){}else{if(1){}}}");
        at("proc f(){while(1)@;}", 1);
        at("proc f(){while(1){}@else{}}", 1);
        at("proc f(){while@{}}", 1);
        at("proc f(){return@;}", 1);
        at("proc f(){return 1@}", 1);
        at("proc f(){return(1)@,1;}", 1);
        at("proc f(){out @1;}", 1);
        at("proc f(){out(@);}", 1);
        at("proc f(){out(1@,2);}", 1);
        at("proc f(){out(1)@}", 1);
        at("proc f(){x=in(@1);}", 1);
        at("proc f(){x=1<2@<3;}", 1);
        at("proc f(){x=1==2@!=3;}", 1);
        fine("proc f(){x=(1<2)<3;x=1+2==3*4;}");
        at("proc f(){x=(1@;}", 1);
        at("proc f(){x=(@);}", 1);
        at("proc f(){x=1@);}", 1);
        at("proc f(){x=-@;}", 1);
        at("proc f(){x=1+@;}", 1);
        at("proc f(){x=1*@*1;}", 1);
        at("proc f(){x=a@{1};}", 1);
        at("proc f(){x=g()@(1);}", 1);
        at("proc f(){x=a[1]@[1];}", 1);
        at("proc f(){x=1@(1);}", 1);
        at("proc f(){@", 1);
        at("proc f(){if(1){}@", 1);
        at("proc f(){x=1@", 1);
        at("proc f(){}var@", 1);
    }

    /** At most 20 are open: the procedure's { is one of them. */
    private static void open() {
        String deep = Due.many("if(1){", 18);
        String end = Due.many("}", 19);
        fine("proc f(){" + deep + "x=1;" + end);
        // 19 are open here: one more of each sort fits, and no second one in it
        fine("proc f(){" + deep + "x=(1);x=-1;x=!1;x=~1;x=a[1];x=g(1);x=in();out(1);h();a[1]=1;var b[1];" + end);
        at("proc f(){" + deep + "x=(@(1));", 1);
        at("proc f(){" + deep + "x=-@-1;", 1);
        at("proc f(){" + deep + "x=!@!1;", 1);
        at("proc f(){" + deep + "x=~@~1;", 1);
        at("proc f(){" + deep + "x=-@!1;", 1);
        at("proc f(){" + deep + "x=-@(1);", 1);
        at("proc f(){" + deep + "x=(@-1);", 1);
        at("proc f(){" + deep + "x=a[@(1)];", 1);
        at("proc f(){" + deep + "x=a[a@[1]];", 1);
        at("proc f(){" + deep + "x=g(g@());", 1);
        at("proc f(){" + deep + "x=g(in@());", 1);
        at("proc f(){" + deep + "out(@-1);", 1);
        at("proc f(){" + deep + "g(@~1);", 1);
        at("proc f(){" + deep + "a[@!1]=1;", 1);
        at("proc f(){" + deep + "if(@(1)){}", 1);
        at("proc f(){" + deep + "if(1){if@(1){}}", 1);
        at("proc f(){" + deep + "while(1){x=@(1);}", 1);
        at("proc f(){" + deep + "if(1){var b@[1];}", 1);
        // the last three only up to their factor's end, and a - between two parts is none
        fine("proc f(){" + deep + "x=-1-1-1+-1*-1;x=(1)-(1);x=a[1]-a[1];x=g(1-1,1);" + end);
        fine("proc f(){" + deep + "x=1-1-1-1;" + end);
        at("proc f(){" + deep + "if(1){x=1-@-1;}", 1);
        fine("proc f(){x=" + Due.many("(", 19) + "1" + Due.many(")", 19) + ";}");
        at("proc f(){x=" + Due.many("(", 19) + "@(1", 1);
        fine("proc f(){x=" + Due.many("-", 19) + "1;}");
        at("proc f(){x=" + Due.many("-", 19) + "@-1;}", 1);
        fine("proc f(){x=" + Due.many("a[", 19) + "1" + Due.many("]", 19) + ";}");
        at("proc f(){x=" + Due.many("a[", 19) + "a@[1", 1);
        fine("proc f(){x=" + Due.many("g(", 18) + "h()" + Due.many(")", 18) + ";}");
        at("proc f(){x=" + Due.many("g(", 19) + "g@(", 1);
        fine("proc f(a){x=(((((1)))));}proc g(a){x=" + Due.many("(", 19) + "1" + Due.many(")", 19) + ";}");
    }

    private static void twice() {
        at("var a;var @a;", 2);
        at("var a;var @a[2];", 2);
        at("var a[2];proc @a(){}", 2);
        at("proc a(){}var @a;var a;", 2);
        at("proc a(){}proc @a(){}", 2);
        at("proc f(a,@a){}", 2);
        at("proc f(a,b,c,@a){}", 2);
        at("proc f(a){var @a;}", 2);
        at("proc f(a){if(1){var @a[3];}}", 2);
        at("proc f(){var a;var @a;}", 2);
        at("proc f(){var a;while(1){var @a;}}", 2);
        at("proc f(){var a[1];if(1){if(1){var @a;}}}", 2);
        fine("proc f(){if(1){var a;}else{var a;}while(1){var a[2];}var a;}");
        fine("proc f(f){var g;}proc g(f){var a;}var a;");
        fine("proc f(a){}proc g(a){var b;}proc h(b){var a;}");
        at("proc f(a,@a,a){}", 2);
        at("proc f(){var a;var @a;}var f;", 2);
        at("proc f(){var b;}proc @f(a,a){}", 2);
        // 1 goes ahead, wherever it stands
        at("var a;var a;@?", 1);
        at("var a;var a;var b[@0];", 1);
    }

    private static void usedOtherwise() {
        at("proc f(){@a=1;}var a[2];", 3);
        at("proc f(){@a=1;}proc a(){}", 3);
        at("proc f(){@a[1]=1;}var a;", 3);
        at("proc f(){@a[1]=1;}proc a(){}", 3);
        at("proc f(){@a();}var a;", 3);
        at("proc f(){@a();}var a[2];", 3);
        at("proc f(){@a(1);}proc a(){}", 3);
        at("proc f(){@a();}proc a(b){}", 3);
        at("proc f(){@a(1,2,3);}proc a(b,c,d,e){}", 3);
        at("proc f(){@a(1,2,3,4);}proc a(b,c,d){}", 3);
        fine("proc f(){a(1,2,3,4);x=a(1,2,3,4);}proc a(b,c,d,e){}");
        at("proc f(){x=@a;}var a[2];", 3);
        at("proc f(){x=@a[1];}var a;", 3);
        at("proc f(){x=@a(1);}var a;", 3);
        at("proc f(a){@a[1]=1;}", 3);
        at("proc f(a){@a();}", 3);
        at("proc f(){var a;x=@a();}var a[3];", 3);
        at("proc f(){var a[2];x=@a;}var a;", 3);
        at("proc f(){var a[2];x=@a(1);}proc a(b){}", 3);
        at("proc f(){if(1){var a;}x=@a;}var a[2];", 3);
        fine("proc f(){a[1]=1;var a;a=1;}var a[2];");
        fine("proc f(){if(1){var a;a=1;}a[1]=1;}var a[2];");
        fine("proc f(a){a=1;}proc g(){a();}proc a(){}");
        // outer names: as they are used first
        fine("proc f(){a=1;x=a+a;}");
        at("proc f(){a=1;@a[1]=1;}", 3);
        at("proc f(){a=1;x=@a();}", 3);
        at("proc f(){a[1]=1;x=@a;}", 3);
        at("proc f(){a();x=@a;}", 3);
        at("proc f(){a();@a(1);}", 3);
        at("proc f(){a(1,2);@a(1);}", 3);
        at("proc f(){a(@a);}", 3);
        at("proc f(){a[@a]=1;}", 3);
        at("proc f(){a[1]=@a;}", 3);
        at("proc f(){a=@a(1);}", 3);
        at("proc f(){if(1){var a;a=1;}a();@a=1;}", 3);
        at("proc f(){a=1;}proc g(){@a();}", 3);
        // the least place of 3; 2 and 1 go ahead
        at("proc f(){@a();a[1]=1;b();}var a;var b;", 3);
        at("proc f(){a();}var a;var @a;", 2);
        at("proc f(){a();}var a;@1", 1);
    }

    private static void muchOfLocals() {
        String full = "proc f(){var a[200];var b[199];var c;";
        fine(full + "}");
        at(full + "var @d;}", 4);
        at(full + "var @d;var e;}", 4);
        at(full + "if(1){var @d[2];}}", 4);
        at("proc f(){var a[200];var b[200];var @c;}", 4);
        at("proc f(){var a[200];var b;var @c[200];}", 4);
        at("proc f(){if(1){var a[200];}if(1){var a[200];}var @a;}", 4);
        fine("proc f(){if(1){var a[200];}if(1){var a[200];}}proc g(){var a[200];var b[200];}");
        fine("proc f(p,q,r,s){var a[200];var b[200];}");
        String many = "proc f(){" + Due.many("if(1){var a;}", 150);
        at(many + "var b[200];var c[50];var @d;}", 4);
        fine(many + "var b[200];var c[50];}");
    }

    /** Depth 0 to 7 may be; the first token of a factor of depth 8 is told. */
    private static void muchDepth() {
        String seven = "1+(1+(1+(1+(1+(1+(1+";
        String close = "))))))";
        fine("proc f(){x=" + seven + "1" + close + ";}");
        at("proc f(){x=" + seven + "(1+@1)" + close + ";}", 4);
        at("proc f(){x=" + seven + "1*@1" + close + ";}", 4);
        at("proc f(){x=" + seven + "1*@-1" + close + ";}", 4);
        at("proc f(){x=" + seven + "1*@(1)" + close + ";}", 4);
        at("proc f(){x=" + seven + "1*@a[1]" + close + ";}", 4);
        at("proc f(){x=" + seven + "1*@g(1)" + close + ";}", 4);
        at("proc f(){x=" + seven + "1*@in()" + close + ";}", 4);
        at("proc f(){x=" + seven + "(1<@1)" + close + ";}", 4);
        fine("proc f(){x=" + seven + "g(1)" + close + ";}");
        at("proc f(){x=" + seven + "g(1,@1)" + close + ";}", 4);
        at("proc f(){x=" + seven + "g(1,@1,1)" + close + ";}", 4);
        fine("proc f(){x=" + seven + "a[1]" + close + ";}");
        at("proc f(){x=" + seven + "a[1+@1]" + close + ";}", 4);
        fine("proc f(){x=" + seven + "-!~1" + close + ";}");
        fine("proc f(){a[" + seven + "1" + close + "]=1;}");
        at("proc f(){a[1]=" + seven + "@1" + close + ";}", 4);
        fine("proc f(){x=" + seven + "1+1" + close + ";}");
        fine("proc f(){g(1,2,3,1+(1+(1+(1+1))));}");
        at("proc f(){g(1,2,3,1+(1+(1+(1+(1+@1)))));}", 4);
        fine("proc f(){if(" + seven + "1" + close + "){}while(" + seven + "1" + close + "){}out(" + seven + "1" + close + ");return " + seven + "1" + close + ";}");
        fine("proc f(){x=1+1+1+1+1+1+1+1+1+1*1*1*1*1*1*1*1*1*1;x=1==1+1*1;}");
        fine("proc f(){x=g(1,g(1,g(1,g(1,g(1,g(1,g(1,h(1))))))));}");
        at("proc f(){x=g(1,g(1,g(1,g(1,g(1,g(1,g(1,g(1,@1))))))));}", 4);
        fine("proc f(){x=g(1,2,3,g(1,2,3,4));}");
        fine("proc f(){x=g(1,2,3,g(1,2,3,h(1,2)));}");
        at("proc f(){x=g(1,2,3,g(1,2,3,h(1,2,@3)));}", 4);
    }

    private static void muchOfNames() {
        StringBuilder declared = new StringBuilder();
        StringBuilder outer = new StringBuilder("proc f(){");
        for (int i = 10; i < 70; i++) {
            declared.append(i % 3 == 0 ? "var a" + i + ";" : i % 3 == 1 ? "var a" + i + "[2];" : "proc a" + i + "(p){var q;}");
            outer.append(i % 3 == 0 ? "o" + i + "=1;" : i % 3 == 1 ? "o" + i + "[2]=1;" : "o" + i + "();");
        }
        fine(declared.toString());
        at(declared + "var @b;", 4);
        at(declared + "var @b[2];var c;", 4);
        at(declared + "proc @b(){}", 4);
        at(declared + "var @a10;", 2);
        fine(outer + "}");
        fine(outer + "o12=o12;o13[1]=1;o11();f();}");
        at(outer + "@b=1;c=1;}", 4);
        at(outer + "@x[c]=1;}", 4);
        at(outer + "o12=@b();}", 4);
        at(outer + "@o11=1;}", 3);
        fine(outer + "var b;b=1;}var c;proc g(d){c=d;f();}");
        // the least place of 4, whichever it is
        at("proc f(){x=g(1,2,3,g(1,2,3,h(1,2,@3)));var a[200];var b[200];var c;}", 4);
        at("proc f(){var a[200];var b[200];var @c;x=g(1,2,3,g(1,2,3,h(1,2,3)));}", 4);
        at(declared + "var @b;proc g(){x=k(1,2,3,k(1,2,3,h(1,2,3)));}", 4);
        at("proc g(){y=y+1;a12=@y();}" + declared + "var b;", 3);
    }

    /** A unit's assembly of at most 40000 signs: an exact text of so many, and of one more. */
    private static void muchTyped() {
        String most = "proc f(){" + Due.many("a[b]=c;", 312);
        ToolMill mill = new ToolMill();
        Due.is("source() of 312 statements", () -> Due.source(mill, most + "}"), 0);
        int signs = Due.typed(mill, 0).length();
        // x=1; is li $t0,1 and sw $t0,x: each digit more is one sign more
        String rest = "x=1;";
        Due.is("source() with one more", () -> Due.source(mill, most + rest + "}"), 1);
        int more = Due.typed(mill, 1).length() - signs;
        Due.is("li $t0,1 / sw $t0,x, and .want x,1", () -> more, 9 + 9 + 10);
        int missing = 40000 - signs - more;
        StringBuilder text = new StringBuilder(most + rest);
        while (missing >= 18 + 9) {
            text.append("x=1;");
            missing -= 18;
        }
        // two statements x=1; with the missing signs as digits
        String digits = "1".repeat(1 + Math.max(0, missing - 18));
        Due.same("digits that are needed", Boolean.toString(missing >= 18 && digits.length() <= 9), "true");
        Due.is("source() of 40000 signs", () -> Due.source(mill, text + "x=" + digits + ";}"), 2);
        Due.is("signs of it", () -> Due.typed(mill, 2).length(), 40000);
        Due.is("last sign", () -> mill.typed(2, 39999), 10);
        Due.is("behind it", () -> mill.typed(2, 40000), -1);
        place(text + "x=" + digits + "1;}", 4, text.length() + 2 + digits.length() + 3);
        place(text + "x=" + digits + "1;} ", 4, text.length() + 2 + digits.length() + 4);
        place(text + "x=" + digits + "1;y=g(1,2,3,g(1,2,3,h(1,2,3)));}", 4, text.length() + 2 + digits.length() + 2 + 24);
    }

    /** Faults of the unit's own assembly are 4 at the number of signs. */
    private static void assemblyOfUnit() {
        at("var text;@", 4);
        at("var text[1]; @", 4);
        fine("proc text(){}");
        fine("var data;");
        fine("var data[3];");
        fine("proc data(){}");
        fine("proc f(){text();data=1;}");
        fine("var nop;var lw;proc b(){nop=lw;b();}proc li(){}proc syscall(){}");
        StringBuilder arrays = new StringBuilder();
        for (char c = 'a'; c < 'a' + 20; c++) {
            arrays.append("var ").append(c).append("[200];");
        }
        // 20 times 804 bytes, and 304 more
        fine(arrays + "var z[75];");
        at(arrays + "var z[76];@", 4);
        at(arrays + "var z[75];var y;@", 4);
        fine(arrays + "var z[74];var y;");
    }

    public static void main(String[] args) {
        signs();
        units();
        ends();
        anew();
        words();
        numbers();
        tokens();
        declarations();
        statements();
        open();
        twice();
        usedOtherwise();
        muchOfLocals();
        muchDepth();
        muchOfNames();
        muchTyped();
        assemblyOfUnit();
        Due.finish("ToolMillEdgesLanguage");
    }
}
