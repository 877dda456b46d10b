import java.util.Random;

/** Calls by chance (always the same ones): no exception but those of the document ever comes out. */
public final class ToolMillAnyCalls {
    private static final String[] PIECES = {
        "var ", "proc ", "main", "f", "(", ")", "{", "}", "[", "]", ";", ",", "=", "==", "!=", "<", "<=", "<<", ">>", "+", "-", "*", "/", "%",
        "&", "|", "^", "!", "~", "if(", "else", "while(", "return ", "out(", "in()", "a", "b", "1", "200", "2147483647", "#", "\n", " ",
        "proc main(){", "x=1;", "a[1]=2;", "f(1,2);", "var a;", "var b[3];", "}", "abcdefghi", "99999999999",
        ".text", ".data", ".globl ", ".kind ", ".want ", ".word ", ".half ", ".byte ", ".space ", ".align ", ".set ", ".reorder\n",
        ".noreorder\n", ".if ", ".ifsame ", ".else\n", ".endif\n", ".macro m p\n", ".endm\n", ".rept 3\n", ".endr\n", "\\p", "\\@", "m 5\n",
        "main: ", "1: ", "1b", "1f", "$t0", "$ra", ",", "nop\n", "addu $t0,$t1,$t2\n", "b 1f\n", "lw $t0,x\n", "jal x\n", "x: ", "jr $ra\n",
        "%hi(x)", "%lo(", "4294967295", "0x", "li $v0,10\n", "syscall\n", ".globl main\n", "li ", "la ", "beq ", ".", "$", "%", ":", "@",
    };

    private final Random random;
    private final ToolMill mill = new ToolMill();

    private ToolMillAnyCalls(int seed) {
        random = new Random(seed);
    }

    private int any() {
        switch (random.nextInt(6)) {
            case 0:
                return random.nextInt();
            case 1:
                return random.nextBoolean() ? Integer.MIN_VALUE : Integer.MAX_VALUE;
            case 2:
                return random.nextInt(70000);
            default:
                return random.nextInt(14) - 2;
        }
    }

    private String text() {
        StringBuilder text = new StringBuilder();
        if (random.nextInt(3) == 0) {
            text.append(random.nextBoolean() ? "proc main(){" : ".globl main\nmain: ");
        }
        int pieces = random.nextInt(random.nextInt(8) == 0 ? 700 : 12);
        for (int i = 0; i < pieces; i++) {
            text.append(random.nextInt(40) == 0 ? Character.toString((char) (32 + random.nextInt(95))) : PIECES[random.nextInt(PIECES.length)]);
        }
        if (random.nextInt(3) == 0) {
            text.append(random.nextBoolean() ? "}" : "jr $ra");
        }
        text.setLength(Math.min(text.length(), 2900));
        return text.toString();
    }

    /** Does one call; its answer doesn't matter. */
    private long call(int which) {
        switch (which) {
            case 0:
                return mill.put(any());
            case 1:
                mill.end(any());
                return 0;
            case 2:
                return mill.source();
            case 3:
                return mill.assemble();
            case 4:
                mill.forget();
                return 0;
            case 5:
                return mill.fault(any());
            case 6:
                return mill.typed(any(), any());
            case 7:
                return mill.unit(any(), any());
            case 8:
                return mill.section(any(), any(), any());
            case 9:
                return mill.byteOf(any(), any(), any());
            case 10:
                return mill.label(any(), any(), any());
            case 11:
                return mill.relocation(any(), any(), any());
            case 12:
                return mill.input(any());
            case 13:
                return mill.link(any() & ~3, 65536);
            case 14:
                return mill.link(any(), any());
            case 15:
                return mill.run(any());
            case 16:
                return mill.state(any());
            case 17:
                return mill.register(any());
            case 18:
                return mill.word(any());
            case 19:
                return mill.output(any());
            case 20:
                return mill.listing(any(), any());
            case 21:
                return mill.mean(any());
            case 22:
                return mill.meant(any());
            default:
                return mill.said(any());
        }
    }

    private static final String[] MAY_THROW = {
        Due.ILLEGAL_ARGUMENT + Due.UNSUPPORTED, Due.ILLEGAL_ARGUMENT, Due.ILLEGAL_STATE, Due.ILLEGAL_STATE, "", Due.ILLEGAL_ARGUMENT,
        Due.NO_ELEMENT, Due.NO_ELEMENT + Due.ILLEGAL_ARGUMENT, Due.NO_ELEMENT + Due.ILLEGAL_ARGUMENT, Due.NO_ELEMENT,
        Due.NO_ELEMENT + Due.ILLEGAL_ARGUMENT, Due.NO_ELEMENT + Due.ILLEGAL_ARGUMENT, Due.UNSUPPORTED,
        Due.ILLEGAL_STATE + Due.ILLEGAL_ARGUMENT, Due.ILLEGAL_STATE + Due.ILLEGAL_ARGUMENT, Due.ILLEGAL_STATE + Due.ILLEGAL_ARGUMENT,
        Due.ILLEGAL_STATE + Due.ILLEGAL_ARGUMENT, Due.ILLEGAL_STATE + Due.ILLEGAL_ARGUMENT, Due.ILLEGAL_STATE + Due.NO_INDEX,
        Due.ILLEGAL_STATE + Due.NO_INDEX, Due.NO_INDEX, Due.ILLEGAL_STATE + Due.ILLEGAL_ARGUMENT,
        Due.ILLEGAL_STATE + Due.ILLEGAL_ARGUMENT, Due.ILLEGAL_STATE + Due.NO_INDEX,
    };

    private void calls(int seed) {
        for (int i = 0; i < 400; i++) {
            int which = random.nextInt(24);
            if (random.nextInt(3) == 0) {
                Due.write(mill, text());
                which = 2 + random.nextInt(2);
            }
            String thrown = "";
            try {
                call(which);
            } catch (RuntimeException e) {
                thrown = e.getClass().getSimpleName();
            }
            boolean fine = thrown.isEmpty() || MAY_THROW[which].contains(thrown);
            Due.same("seed " + seed + ", call " + i + " of sort " + which, fine ? "" : thrown, "");
        }
    }

    public static void main(String[] args) {
        int seeds = args.length > 0 ? Integer.parseInt(args[0]) : 300;
        for (int seed = 0; seed < seeds; seed++) {
            new ToolMillAnyCalls(seed).calls(seed);
        }
        Due.finish("ToolMillAnyCalls");
    }
}
