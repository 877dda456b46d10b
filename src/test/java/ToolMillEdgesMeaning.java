import java.util.function.IntBinaryOperator;

/** The edges that section 8 of the document names, and those of mean(), meant() and said(). */
public final class ToolMillEdgesMeaning {
    private static final int[] VALUES = {0, 1, 2, 3, 7, 31, 32, 33, 65535, 65536, Integer.MAX_VALUE, -1, -2, -7, -33, -65536, -Integer.MAX_VALUE, Integer.MIN_VALUE};

    private ToolMillEdgesMeaning() {
    }

    private static ToolMill mill(String... texts) {
        ToolMill mill = new ToolMill();
        for (int i = 0; i < texts.length; i++) {
            String text = texts[i];
            Due.is("source() of " + Due.shown(text), () -> Due.source(mill, text), i);
        }
        return mill;
    }

    /** What mean() answers, and meant() of the value, the steps and the calls. */
    private static void means(ToolMill mill, int most, int answer, int value, int steps, int calls) {
        Due.is("mean(" + most + ")", () -> mill.mean(most), answer);
        int[] due = {answer, value, steps};
        for (int what = 0; what < 3; what++) {
            int k = what;
            Due.is("meant(" + k + ") of mean(" + most + ")", () -> mill.meant(k), due[k]);
        }
        Due.is("meant(5) of mean(" + most + ")", () -> mill.meant(5), calls);
    }

    private static void main(String body, int answer, int value, int steps) {
        means(mill("proc main(){" + body + "}"), 20000, answer, value, steps, 1);
    }

    private static String number(int value) {
        return value == Integer.MIN_VALUE ? "(-2147483647-1)" : value < 0 ? "(-" + -value + ")" : "" + value;
    }

    /** Two values with a sign between: also what the machine makes of it. */
    private static void two(String sign, IntBinaryOperator due) {
        StringBuilder body = new StringBuilder();
        ToolMill mill = new ToolMill();
        for (int a : VALUES) {
            body.setLength(0);
            for (int b : VALUES) {
                boolean division = sign.equals("/") || sign.equals("%");
                body.append("out(").append(division && b == 0 ? "0" : number(a) + sign + number(b)).append(");");
            }
            mill.forget();
            Due.is("source() of " + sign, () -> Due.source(mill, "proc main(){" + body + "}"), 0);
            Due.is("mean() of " + sign, () -> mill.mean(100), 1);
            Due.is("link() of " + sign, () -> mill.link(0, 65536) > 0 ? 1 : 0, 1);
            mill.run(20000);
            for (int i = 0; i < VALUES.length; i++) {
                int k = i;
                boolean division = sign.equals("/") || sign.equals("%");
                int value = division && VALUES[k] == 0 ? 0 : due.applyAsInt(a, VALUES[k]);
                Due.is("said() of " + a + sign + VALUES[k], () -> mill.said(k), value);
                Due.is("output() of " + a + sign + VALUES[k], () -> mill.output(k), value);
            }
        }
    }

    private static void signs() {
        two("+", (a, b) -> a + b);
        two("-", (a, b) -> a - b);
        two("|", (a, b) -> a | b);
        two("^", (a, b) -> a ^ b);
        two("*", (a, b) -> a * b);
        two("/", (a, b) -> a / b);
        two("%", (a, b) -> a % b);
        two("&", (a, b) -> a & b);
        two("<<", (a, b) -> a << (b & 31));
        two(">>", (a, b) -> a >> (b & 31));
        two("==", (a, b) -> a == b ? 1 : 0);
        two("!=", (a, b) -> a != b ? 1 : 0);
        two("<", (a, b) -> a < b ? 1 : 0);
        two("<=", (a, b) -> a <= b ? 1 : 0);
        for (int a : VALUES) {
            main("return -" + number(a) + ";", 1, -a, 1);
            main("return !" + number(a) + ";", 1, a == 0 ? 1 : 0, 1);
            main("return ~" + number(a) + ";", 1, ~a, 1);
        }
        main("return 7-2-1;", 1, 4, 1);
        main("return 7-(2-1);", 1, 6, 1);
        main("return 1+2*3;", 1, 7, 1);
        main("return 2*3+1<<2;", 1, 10, 1);
        main("return 5|2^6;", 1, 1, 1);
        main("return 20/3%4*2;", 1, 4, 1);
        main("return 1+1==2*1;", 1, 1, 1);
        main("return -2*-3;", 1, 6, 1);
        main("return -1<0;", 1, 1, 1);
    }

    private static void traps() {
        main("return 1/0;", 2, 1, 1);
        main("return 1%0;", 2, 1, 1);
        main("return 0/0;", 2, 1, 1);
        main("out(1);return 5/(1-1);", 2, 1, 2);
        main("var a[3];return a[3];", 2, 2, 2);
        main("var a[3];return a[-1];", 2, 2, 2);
        main("var a[3];return a[2147483647];", 2, 2, 2);
        main("var a[3];return a[-2147483647-1];", 2, 2, 2);
        main("var a[3];return a[0]+a[2];", 1, 0, 2);
        main("var a[3];a[2]=5;return a[2];", 1, 5, 3);
        main("var a[3];a[3]=5;", 2, 2, 2);
        main("var a[1];a[0]=5;a[1]=5;", 2, 2, 3);
        means(mill("var a[200];proc main(){a[199]=7;a[0]=8;return a[199]+a[0];}"), 20000, 1, 15, 3, 1);
        means(mill("var a[200];proc main(){return a[200];}"), 20000, 2, 2, 1, 1);
        means(mill("var a[200];proc main(){a[200]=1;}"), 20000, 2, 2, 1, 1);
        means(mill("var a[200];proc main(){a[-1]=1;}"), 20000, 2, 2, 1, 1);
        means(mill("proc main(){return a[3]+5;}", "var b[9];var a[4];var c;"), 20000, 1, 5, 1, 1);
        means(mill("proc main(){return a[4]+5;}", "var b[9];var a[4];var c;"), 20000, 2, 2, 1, 1);
        // the first E is looked at ahead of the second one
        main("var a[3];a[3]=1/0;", 2, 2, 2);
        main("var a[3];a[2]=1/0;", 2, 1, 2);
        main("var a[3];a[1/0]=a[7];", 2, 1, 2);
        means(mill("var n;var a[3];proc main(){a[n]=f();return a[0]*10+a[1];}proc f(){n=1;return 4;}"), 20000, 1, 40, 4, 2);
        // all of E is worked out, from left to right
        main("return 0*(1/0);", 2, 1, 1);
        main("return 1==1|1/0;", 2, 1, 1);
        means(mill("var n;proc f(k){n=n*10+k;return k;}proc main(){var x;x=f(1)+f(2)*f(3)-g(f(4),f(5));return n;}proc g(a,b){return a;}"), 20000, 1, 12345, 14, 2);
        means(mill("var a[9];proc f(k){out(k);return k;}proc main(){a[f(1)]=f(2)<f(3);return a[1];}"), 20000, 1, 1, 8, 2);
        // a trap keeps what was put out ahead of it
        ToolMill mill = mill("proc main(){out(4);out(5);out(1/0);}");
        means(mill, 20000, 2, 1, 3, 1);
        Due.is("values put out", () -> mill.meant(3), 2);
        Due.is("the second", () -> mill.said(1), 5);
        Due.is("no third", () -> mill.said(2), Due.NO_INDEX);
    }

    /** The 41st call under way; main is the first. */
    private static void calls() {
        String f = "proc f(n){if(n<2){return 9;}return f(n-1);}";
        means(mill(f + "proc main(){return f(1);}"), 20000, 1, 9, 3, 2);
        means(mill(f + "proc main(){return f(39);}"), 20000, 1, 9, 1 + 2 * 39, 40);
        means(mill(f + "proc main(){return f(40);}"), 20000, 2, 3, 1 + 2 * 39, 40);
        means(mill("proc main(){main();}"), 20000, 2, 3, 40, 40);
        means(mill("proc main(){g(g(g(1)));return g(g(g(2)));}proc g(n){return n+1;}"), 20000, 1, 5, 8, 2);
        means(mill("proc main(){var i;while(i<100){h();i=i+1;}return i;}proc h(){}"), 20000, 1, 100, 1 + 1 + 101 + 200 + 1, 2);
        // arguments are worked out ahead of the call: their trap comes first
        means(mill("proc main(){main2(1/0);}proc main2(a){}"), 20000, 2, 1, 1, 1);
        means(mill("proc f(n){return f(n/(39-n)+n+1);}proc main(){return f(1);}"), 20000, 2, 3, 40, 40);
        means(mill("proc f(n){return f(n+1+0/(39-n));}proc main(){return f(1);}"), 20000, 2, 1, 40, 40);
        // each has parameters and locals of its own, 0 at first
        means(mill("proc f(a){var b;var c;var d[2];return a*10000+b*1000+c*100+d[0]*10+d[1];}proc g(a,b,c,d){var e[4];e[0]=1;e[1]=1;e[2]=1;e[3]=1;}proc main(){g(1,2,3,4);return f(5);}"), 20000, 1, 50000, 11, 2);
        means(mill("proc main(){g(1,2,3,4);return f()+1*(2-3*(4-5*(6-7)));}proc g(a,b,c,d){}proc f(){var b;var c;return b*10+c;}"), 20000, 1, -25, 5, 2);
        means(mill("proc f(p){var x;x=1+(1+(1+(1+(1+(1+(1+5))))));return x*100+p;}proc main(){return f(3);}"), 20000, 1, 1203, 4, 2);
        means(mill("proc f(p,q){var x;x=1+(1+(1+(1+(1+(1+(1+p))))));return x*1000+p*100+q*10+g(1+(1+(1+(1+(1+(1+q)))))-6);}proc g(n){return n;}proc main(){return f(3,4);}"), 20000, 1, 10344, 5, 3);
        means(mill("proc f(n){var a;var b[3];a=a+n;b[1]=b[1]+a;if(n){f(n-1);}return a*10+b[1];}proc main(){return f(3);}"), 20000, 1, 33, 1 + 4 * 6 + 3, 5);
        means(mill("proc f(a){a=a+1;return a;}proc main(){var a;a=5;f(a);return a;}"), 20000, 1, 5, 6, 2);
        means(mill("proc f(a,b,c,d){return a*1000+b*100+c*10+d;}proc main(){return f(1,2,3,4);}"), 20000, 1, 1234, 2, 2);
    }

    /** Variables, arrays, parameters and locals have words of their own, in all units. */
    private static void ownWords() {
        means(mill("var a;var b[3];var c;proc main(){a=1;b[0]=2;b[1]=3;b[2]=4;c=5;d=6;e[0]=7;e[1]=8;f=9;"
            + "return ((((((((a*10+b[0])*10+b[1])*10+b[2])*10+c)*10+d)*10+e[0])*10+e[1])*10+f);}", "var d;var e[2];var f;"), 20000, 1, 123456789, 10, 1);
        means(mill("var x;", "var y[5];", "proc main(){x=1;y[4]=2;z=3;w[0]=4;return x*1000+y[4]*100+z*10+w[0];}", "var z;", "", "var w[1];"), 20000, 1, 1234, 5, 1);
        means(mill("proc f(a,b,c,d){var x[200];var y[199];var z;z=a;y[198]=b;x[0]=c;x[199]=d;g(1,2,3,4);return z*1000+y[198]*100+x[0]*10+x[199]+y[0];}"
            + "proc g(a,b,c,d){var x[200];var y[199];var z;z=90;y[198]=91;x[0]=92;x[199]=93;y[0]=94;return z+a+b+c+d;}proc main(){return f(5,6,7,8)+main2();}proc main2(){return 1;}"), 20000, 1, 5679, 20, 3);
        StringBuilder first = new StringBuilder("proc main(){");
        StringBuilder second = new StringBuilder();
        for (int i = 10; i < 69; i++) {
            first.append("o").append(i).append("=").append(i).append(";d").append(i).append("=").append(i).append(";");
            second.append("var o").append(i).append(";");
        }
        first.append("out(o10);out(o11);out(o68);out(d10);out(d68);return p(d68);}");
        StringBuilder declared = new StringBuilder();
        for (int i = 10; i < 69; i++) {
            declared.append("var d").append(i).append(";");
        }
        ToolMill mill = mill(first.toString() + declared, second + "", "proc p(n){q=n*100;return q+o40;}var q;");
        means(mill, 20000, 1, 6840, 2 * 59 + 6 + 2, 2);
        int[] due = {10, 11, 68, 10, 68};
        for (int i = 0; i < due.length; i++) {
            int k = i;
            Due.is("said(" + k + ") of 120 names", () -> mill.said(k), due[k]);
        }
        means(mill("var sll;proc srl(sra){var nop;nop=sra;sll=nop;return lw;}proc main(){return srl(5)*10+sll;}", "var lw;"), 20000, 1, 5, 5, 2);
        Due.is("sll twice", () -> mill("proc main(){}var sll;", "var sll;").mean(1), Due.ILLEGAL_STATE);
        Due.is("sll missing", () -> mill("proc main(){sll=1;}").mean(1), Due.ILLEGAL_STATE);
    }

    /** As many words as six units can have. */
    private static void allWords() {
        String[] texts = new String[6];
        for (int u = 0; u < 6; u++) {
            StringBuilder text = new StringBuilder();
            for (char c = 'a'; c < 'a' + (u == 5 ? 19 : 20); c++) {
                text.append("var ").append(c).append(u).append("[200];");
            }
            texts[u] = text + (u == 5 ? "proc main(){a0[0]=1;t0[199]=2;a1[0]=3;t4[199]=4;a5[0]=5;s5[199]=6;return ((((a0[0]*10+t0[199])*10+a1[0])*10+t4[199])*10+a5[0])*10+s5[199]+b3[7];}" : "");
        }
        ToolMill mill = mill(texts);
        for (int round = 0; round < 3; round++) {
            means(mill, 20000, 1, 123456, 7, 1);
        }
    }

    private static void localsInLoops() {
        main("var i;while(i<3){var k;k=k+1;i=i+1;if(i==3){return k;}}", 1, 3, 2 + 3 + 3 * 4 + 1);
        main("var i;while(i<2){var a[2];a[1]=a[1]+5;i=i+1;out(a[1]);}return 0;", 1, 0, 2 + 3 + 2 * 4 + 1);
        main("if(1){var a;a=4;}if(1){var a;return a;}", 1, 0, 6);
        main("", 1, 0, 0);
        main("var a;", 1, 0, 1);
        main("return 5;return 6;", 1, 5, 1);
        main("if(0){return 1;}else{return 2;}", 1, 2, 2);
        main("if(2){return 1;}else{return 2;}", 1, 1, 2);
        main("if(-1){}return 3;", 1, 3, 2);
        main("while(1){return 8;}", 1, 8, 3);
    }

    /** Steps: each statement one, each condition of a while one each time. */
    private static void steps() {
        String[] bodies = {"var a;", "x=1;", "a[0]=1;", "f();", "if(0){}", "out(1);", "if(1){}else{}"};
        for (String body : bodies) {
            ToolMill mill = mill("var x;var a[1];proc f(){}proc main(){" + body + "}");
            means(mill, 0, 0, 0, 0, 1);
            means(mill, 1, 1, 0, 1, body.startsWith("f") ? 2 : 1);
        }
        ToolMill ret = mill("proc main(){return 5;}");
        means(ret, 0, 0, 0, 0, 1);
        means(ret, 1, 1, 5, 1, 1);
        ToolMill loop = mill("proc main(){while(0){}}");
        means(loop, 0, 0, 0, 0, 1);
        means(loop, 1, 0, 0, 1, 1);
        means(loop, 2, 1, 0, 2, 1);
        ToolMill many = mill("var x;proc main(){while(x<2){x=x+1;}}");
        // while, then thrice its condition and twice its statement
        for (int most = 0; most < 6; most++) {
            means(many, most, 0, 0, most, 1);
        }
        means(many, 6, 1, 0, 6, 1);
        means(many, 20000, 1, 0, 6, 1);
        ToolMill empty = mill("proc main(){}");
        means(empty, 0, 1, 0, 0, 1);
        means(empty, 20000, 1, 0, 0, 1);
        ToolMill endless = mill("proc main(){while(1){}}");
        means(endless, 20000, 0, 0, 20000, 1);
        means(endless, 19999, 0, 0, 19999, 1);
        // no step is left for what comes: neither for a trap's statement
        ToolMill trap = mill("proc main(){out(1);out(1/0);}");
        means(trap, 1, 0, 0, 1, 1);
        means(trap, 2, 2, 1, 2, 1);
        ToolMill called = mill("proc main(){return f();}proc f(){return 3;}");
        means(called, 1, 0, 0, 1, 2);
        means(called, 2, 1, 3, 2, 2);
        // what is put out ahead of the last step is there
        ToolMill out = mill("proc main(){out(7);out(in());out(9);}");
        out.input(8);
        means(out, 2, 0, 0, 2, 1);
        Due.is("values put out", () -> out.meant(3), 2);
        Due.is("inputs taken", () -> out.meant(4), 1);
        Due.is("the second", () -> out.said(1), 8);
        Due.is("no third", () -> out.said(2), Due.NO_INDEX);
    }

    private static void inputsAndValues() {
        ToolMill mill = mill("var g;var a[2];proc main(){out(in());out(in());g=g+1;a[1]=a[1]+1;out(g*10+a[1]);return in();}");
        mill.input(-5);
        means(mill, 100, 1, 0, 6, 1);
        Due.is("first", () -> mill.said(0), -5);
        Due.is("without an input it is 0", () -> mill.said(1), 0);
        Due.is("inputs taken", () -> mill.meant(4), 1);
        mill.input(6);
        mill.input(7);
        mill.input(8);
        for (int round = 0; round < 2; round++) {
            // from the beginning: all is 0, all inputs are there
            means(mill, 100, 1, 7, 6, 1);
            Due.is("first", () -> mill.said(0), -5);
            Due.is("second", () -> mill.said(1), 6);
            Due.is("variables are 0 at first", () -> mill.said(2), 11);
            Due.is("inputs taken", () -> mill.meant(4), 3);
            Due.is("values put out", () -> mill.meant(3), 3);
        }
        mill.link(0, 1024);
        mill.run(20000);
        Due.is("the machine takes its own", () -> mill.state(8), 1);
        Due.is("the meaning is as it was", () -> mill.meant(4), 3);
        ToolMill most = mill("proc main(){var i;while(i<200){out(i);i=i+1;}out(77);}");
        means(most, 20000, 1, 0, 2 + 201 + 400 + 1, 1);
        Due.is("201 values", () -> most.meant(3), 201);
        Due.is("the 200th", () -> most.said(199), 199);
        Due.is("the 201st is not kept", () -> most.said(200), Due.NO_INDEX);
        Due.is("below 0", () -> most.said(-1), Due.NO_INDEX);
    }

    /** What has no meaning: faults 1, 2, 3 of all units as if all were reached, and what main must be. */
    private static void unlinked() {
        String[][] wrong = {
            {"var a;"}, {"var main;"}, {"var main[2];"}, {"proc main(a){}"}, {"proc main(a,b,c,d){}"}, {""},
            {"proc main(){}var a;", "var a;"}, {"proc main(){}", "proc main(){}"}, {"proc main(){}proc f(){}", "var f;"},
            {"proc main(){}proc f(){x=1;}"}, {"proc main(){}proc f(){g();}"}, {"proc main(){}proc f(){a[1]=1;}"}, {"proc main(){}", "", "proc f(){x=y;}", "var x;"},
            {"proc main(){}proc f(){x=1;}", "var x[2];"}, {"proc main(){}proc f(){x[1]=1;}", "var x;"}, {"proc main(){}proc f(){x();}", "var x;"},
            {"proc main(){}proc f(){x(1);}", "proc x(){}"}, {"proc main(){}proc f(){x(1);}", "proc x(a,b){}"}, {"proc main(){}proc f(){x=1;}", "proc x(){}"},
            {"proc f(){main(1);}", "proc main(){}"},
        };
        for (String[] texts : wrong) {
            ToolMill mill = mill(texts);
            for (int steps : new int[] {0, 5, 20000, -1, 20001}) {
                Due.is("mean(" + steps + ") of " + String.join(" / ", texts), () -> mill.mean(steps), Due.ILLEGAL_STATE);
            }
            Due.is("no meaning of " + String.join(" / ", texts), () -> mill.meant(0), Due.ILLEGAL_STATE);
        }
        String[][] right = {
            {"proc main(){}"}, {"proc main(){}var a;", "var b;"}, {"proc main(){f();}", "proc f(){g=a[h(1,2)];}", "var g;var a[3];", "proc h(x,y){return x;}"},
            {"", "", "proc main(){}", "", "", ""}, {"proc f(){main();}", "proc main(){}"},
        };
        for (String[] texts : right) {
            ToolMill mill = mill(texts);
            Due.is("mean() of " + String.join(" / ", texts), () -> mill.mean(100), 1);
        }
        ToolMill mill = mill("proc main(){return 3;}");
        Due.is("mean()", () -> mill.mean(5), 1);
        Due.is("assemble() of a second unit", () -> Due.assemble(mill, "x: nop"), 1);
        Due.is("no meaning is there then", () -> mill.meant(1), Due.ILLEGAL_STATE);
        Due.is("one is in assembly", () -> mill.mean(5), Due.ILLEGAL_STATE);
        mill.forget();
        Due.is("no units", () -> mill.mean(5), Due.ILLEGAL_STATE);
        // an image that is too big has a meaning all the same
        StringBuilder arrays = new StringBuilder("proc main(){return a[199]+t[199];}");
        for (char c = 'a'; c <= 't'; c++) {
            arrays.append("var ").append(c).append("[200];");
        }
        ToolMill big = mill(arrays.toString());
        Due.is("link() of an image that is too big", () -> big.link(0, 512), -1);
        Due.is("its fault", () -> big.fault(0), 4);
        Due.is("mean()", () -> big.mean(5), 1);
        Due.is("fault() stays as it was", () -> big.fault(0), 4);
        ToolMill faulty = mill("proc main(){return 3;}");
        Due.is("mean()", () -> faulty.mean(5), 1);
        Due.is("source() of a text with a fault", () -> Due.source(faulty, "var"), -1);
        Due.is("the meaning stays", () -> faulty.meant(1), 3);
        Due.is("mean() anew", () -> faulty.mean(5), 1);
        Due.is("fault() stays as it was", () -> faulty.fault(0), 1);
        Due.is("its place, too", () -> faulty.fault(1), 3);
        Due.is("link() leaves the meaning", () -> faulty.link(0, 512) > 0 ? faulty.meant(1) : -1, 3);
    }

    public static void main(String[] args) {
        signs();
        traps();
        calls();
        ownWords();
        allWords();
        localsInLoops();
        steps();
        inputsAndValues();
        unlinked();
        Due.finish("ToolMillEdgesMeaning");
    }
}
