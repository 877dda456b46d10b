import java.util.Random;

/** Texts that are right but for a few signs (by chance, always the same ones): whatever comes of them keeps to the document. */
public final class ToolMillNearTexts {
    private static final String[] LANGUAGE = {
        "var v;var a[3];proc f(p,q){var l[2];l[p]=a[q]/v;while(l[0]<5){if(p){out(g(1,p));}else{l[0]=-v;}}return l[1];}proc g(x,y){return x*y+in();}proc main(){return f(0,1);}",
        "proc main(){var i;var s;while(i<=10){s=s+i*i;if(s%2==0){out(s);}i=i+1;}return s;}# end\n",
        "proc main(){return fib(9);}proc fib(n){if(n<2){return n;}return fib(n-1)+fib(n-2);}var unused[200];",
        "proc main(){x=1+(2-(3|(4^(5*(6&(7<<(8>>1)))))));t[x&3]=~x;return t[0]!=!t[1];}var x;var t[4];",
        "proc main(){other(1,2,3,4);y=z[y];}proc deep(){if(1){if(2){while(3){var w;w=w+1;var k[7];k[w]=w;}}}}",
    };
    private static final String[] ASSEMBLY = {
        ".globl main\nmain: addiu $sp,$sp,-8\nsw $ra,4($sp)\njal f\nlw $ra,4($sp)\naddiu $sp,$sp,8\njr $ra\nf: li $v0,65537\nla $t0,d\nlw $t1,d+4\nblt $t0,$t1,f\njr $ra\n.data\n.align 3\nd: .word f,main-4,5\n.half 1,-1\n.byte 1\n.space 3\n",
        ".macro push r,n\naddiu $sp,$sp,-4\nsw \\r,\\n($sp)\nl\\@: .globl l\\@\n.endm\n.globl main\nmain: push $ra,0\n.rept 3\npush $t0,0\n.endr\n.set k,5\n.if k-5\n?\n.else\nbreak k\n.endif\n.ifsame a,a\nnop\n.endif\njr $ra\n",
        ".noreorder\n.globl main\nmain: b 1f\nli $t0,3\n1: bnez $t0,1b\naddiu $t0,$t0,-1\n.reorder\nmult $t0,$t1\nmflo $a0\nli $v0,10\nsyscall\n.kind main,3\n.want main,3\n",
        ".text a\n.globl x\nx: lui $t0,%hi(y)\naddiu $t0,$t0,%lo(y)\njalr $t0\nj z\n.data b\n.globl y\ny: .word 0x80,4294967295,-1\n.text c\nz: bgezal $t0,x\nbreak 1023\n",
        ".macro m a\n.if \\a\nbreak \\a\nm \\a-1\n.endif\n.endm\n.globl main\nmain: m 5\n.rept 2\n.rept 2\n.byte 1\n.endr\n.endr\n.align 2\n.data d\n2: .word 2b,3f\n3:\n",
    };
    private static final String SIGNS = "\n\n  abfgmx0129_.$%#\\@,:;()[]{}+-*/<=>!~&|^";

    private final Random random;
    private final ToolMill mill = new ToolMill();
    private final String name;

    private ToolMillNearTexts(int seed) {
        random = new Random(seed);
        name = "seed " + seed;
    }

    private String near(String[] texts) {
        StringBuilder text = new StringBuilder(texts[random.nextInt(texts.length)]);
        int edits = random.nextInt(4);
        for (int i = 0; i < edits; i++) {
            int at = random.nextInt(text.length());
            int behind = Math.min(text.length(), at + 1 + random.nextInt(random.nextInt(6) == 0 ? 40 : 4));
            int how = random.nextInt(4);
            if (how == 0) {
                text.delete(at, behind);
            } else if (how == 1) {
                text.insert(random.nextInt(text.length()), text.substring(at, behind));
            } else if (how == 2) {
                text.setCharAt(at, SIGNS.charAt(random.nextInt(SIGNS.length())));
            } else {
                text.insert(at, SIGNS.charAt(random.nextInt(SIGNS.length())));
            }
            if (text.length() == 0) {
                text.append(' ');
            }
        }
        return text.toString();
    }

    private void holds(String what, boolean so, String text) {
        Due.same(name + ": " + what + " of " + Due.shown(text), so ? "so" : "not so", "so");
    }

    private long lines(String text) {
        return text.chars().filter(sign -> sign == '\n').count() + 1;
    }

    /** A unit is made, or there is a fault that lies in the text. */
    private void make(boolean language, String text) {
        int units = 0;
        while (units < 6 && there(units)) {
            units++;
        }
        if (units == 6) {
            mill.forget();
            units = 0;
        }
        int made = language ? Due.source(mill, text) : Due.assemble(mill, text);
        int kind = mill.fault(0);
        int place = mill.fault(1);
        holds("no unit of a fault", mill.fault(2) == -1, text);
        if (made == ToolMill.NONE) {
            holds("kind", kind >= 1 && kind <= (language ? 4 : 6), text);
            holds("place", place >= 0 && place <= (language ? text.length() : lines(text) - 1), text);
            return;
        }
        holds("number", made == units, text);
        holds("no fault", kind == 0 && place == -1, text);
        holds("bytes", bytes(made) == mill.unit(made, 4), text);
        if (language) {
            again(made, text);
        }
    }

    private boolean there(int unit) {
        try {
            mill.unit(unit, 0);
            return true;
        } catch (java.util.NoSuchElementException none) {
            return false;
        }
    }

    private int bytes(int unit) {
        int bytes = 0;
        for (int i = 0; i < mill.unit(unit, 1); i++) {
            bytes += mill.section(unit, i, 1);
        }
        return bytes;
    }

    /** The assembly of a unit, where it is a text of its own, gives the same object. */
    private void again(int unit, String text) {
        String typed = Due.typed(mill, unit);
        if (typed.length() > 3000) {
            return;
        }
        ToolMill other = new ToolMill();
        Due.assemble(other, typed);
        holds("object", Due.relocations(mill, unit).equals(Due.relocations(other, 0)), text);
        for (int i = 0; i < mill.unit(unit, 1); i++) {
            holds("section", Due.listing(mill, unit, i).equals(Due.listing(other, 0, i)), text);
        }
    }

    private void link(String text) {
        int base = 4 * random.nextInt(1000);
        int bytes = mill.link(base, 65536);
        int kind = mill.fault(0);
        if (bytes == ToolMill.NONE) {
            holds("kind of link()", kind >= 1 && kind <= 5, text);
            holds("unit of link()", mill.fault(2) >= 0 && mill.fault(2) <= 6 || kind == 4, text);
            return;
        }
        holds("no fault of link()", kind == 0 && bytes % 4 == 0 && mill.state(9) == base + bytes, text);
        int done = mill.run(2000);
        holds("steps", done <= 2000 && mill.state(6) == done && (mill.state(0) != 0 || done == 2000), text);
        holds("$zero", mill.register(0) == 0, text);
    }

    /** Where the meaning ends or is trapped, the machine does the same. */
    private void mean(String text) {
        int answer;
        try {
            answer = mill.mean(300);
        } catch (IllegalStateException none) {
            return;
        }
        holds("steps of mean()", mill.meant(2) <= 300 && (answer != 0 || mill.meant(2) == 300), text);
        if (answer == 0 || mill.meant(5) == 40 || mill.link(0, 65536) == ToolMill.NONE) {
            return;
        }
        for (int i = 0; i < 10 && mill.state(0) == 0; i++) {
            mill.run(20000);
        }
        holds("outcome", mill.state(0) == answer && mill.state(1) == mill.meant(1), text);
        holds("outputs", mill.state(7) == mill.meant(3), text);
    }

    private void texts(int count) {
        for (int i = 0; i < count; i++) {
            boolean language = random.nextBoolean();
            String text = near(language ? LANGUAGE : ASSEMBLY);
            make(language, text);
            if (there(0)) {
                link(text);
                mean(text);
            }
            if (random.nextInt(3) == 0) {
                mill.forget();
            }
        }
    }

    public static void main(String[] args) {
        int from = args.length > 0 ? Integer.parseInt(args[0]) : 0;
        int seeds = args.length > 1 ? Integer.parseInt(args[1]) : 40;
        for (int seed = from; seed < from + seeds; seed++) {
            new ToolMillNearTexts(seed).texts(100);
        }
        Due.finish("ToolMillNearTexts");
    }
}
