import java.util.Random;

/** Programs made by chance (always the same ones): the machine must do what the meaning says. */
public final class ToolMillAgree {
    private final Random random;
    private final StringBuilder text = new StringBuilder();
    /** Variables that may be used where the program is written. */
    private String[] variables;
    private int statements;

    private ToolMillAgree(int seed) {
        random = new Random(seed);
    }

    private int below(int n) {
        return random.nextInt(n);
    }

    private String expression(int open, int depth) {
        switch (open <= 0 || depth > 5 ? below(3) : below(10)) {
            case 0:
                return below(4) == 0 ? "in()" : Integer.toString(below(3) == 0 ? random.nextInt() & 0x7FFFFFFF : below(6));
            case 1:
            case 2:
                return variables[below(variables.length)];
            case 3:
                return "-!~".charAt(below(3)) + expression(open - 1, depth);
            case 4:
                return (below(2) == 0 ? "arr[" : "la[") + expression(open - 1, depth) + "%5]";
            case 5:
                return "f" + (1 + below(3)) + "(" + expression(open - 1, depth) + "," + expression(open - 1, depth + 1) + ")";
            default:
                String[] signs = {"+", "-", "|", "^", "*", "/", "%", "&", "<<", ">>", "==", "!=", "<", "<="};
                return "(" + expression(open - 1, depth) + signs[below(14)] + expression(open - 1, depth + 1) + ")";
        }
    }

    private void statement(int level) {
        statements++;
        String e = expression(2, 0);
        switch (level > 2 || statements > 12 ? below(4) : below(7)) {
            case 0:
                text.append("out(").append(e).append(");");
                break;
            case 1:
                text.append(below(2) == 0 ? "arr[" : "la[").append(below(6)).append("]=").append(expression(2, 1)).append(";");
                break;
            case 2:
            case 3:
                text.append(variables[below(variables.length)]).append("=").append(e).append(";");
                break;
            case 4:
                text.append("if(").append(e).append("){");
                statement(level + 1);
                text.append("}else{");
                statement(level + 1);
                text.append("}");
                break;
            case 5:
                text.append("i=").append(below(4)).append(";while(0<i){i=i-1;");
                statement(level + 1);
                text.append("}");
                break;
            default:
                text.append("var n").append(statements).append(";f1(1,").append(e).append(");");
                break;
        }
    }

    private void procedure(String name, String parameters, int count) {
        statements = 0;
        text.append("proc ").append(name).append("(").append(parameters).append("){var i;var la[5];");
        if (!parameters.isEmpty()) {
            text.append("calls=calls+1;if(30<calls){return a;}");
        }
        for (int k = 0; k < count; k++) {
            statement(0);
        }
        text.append("return ").append(expression(2, 0)).append(";}");
    }

    private static void due(int seed, String what, long got, long want) {
        Due.same("program " + seed + ": " + what, Long.toString(got), Long.toString(want));
    }

    private static boolean program(int seed) {
        ToolMillAgree made = new ToolMillAgree(seed);
        made.variables = new String[] {"g", "h", "a", "b", "i", "calls"};
        made.procedure("f1", "a,b", 3);
        made.procedure("f2", "a,b", 2);
        made.text.append("var g;var arr[5];");
        String first = made.text.toString();
        made.text.setLength(0);
        made.procedure("f3", "a,b", 2);
        made.variables = new String[] {"g", "h", "i", "calls"};
        made.procedure("main", "", 5);
        made.text.append("var h;var calls;");
        String second = made.text.toString();
        if (first.length() > 3000 || second.length() > 3000) {
            return false;
        }
        ToolMill mill = new ToolMill();
        if (Due.source(mill, first) == ToolMill.NONE) {
            due(seed, "fault(0) of the first unit", mill.fault(0), 4);
            return false;
        }
        if (Due.source(mill, second) == ToolMill.NONE) {
            due(seed, "fault(0) of the second unit", mill.fault(0), 4);
            return false;
        }
        for (int i = 0; i < 20; i++) {
            mill.input(made.random.nextInt(20) - 10);
        }
        if (mill.link(4 * made.below(1000), 65536) == ToolMill.NONE) {
            due(seed, "fault(0) of the link", mill.fault(0), 0);
            return false;
        }
        return compare(mill, seed);
    }

    private static boolean compare(ToolMill mill, int seed) {
        int answer = mill.mean(20000);
        for (int i = 0; i < 50 && mill.state(0) == 0; i++) {
            mill.run(20000);
        }
        if (answer == 0 || mill.state(0) == 0 || mill.meant(5) == 40) {
            return false;
        }
        due(seed, "outcome", mill.state(0), answer);
        due(seed, "its number", mill.state(1), mill.meant(1));
        due(seed, "outputs", mill.state(7), mill.meant(3));
        due(seed, "inputs to come", mill.state(8), 20 - mill.meant(4));
        for (int i = 0; i < mill.meant(3) && i < 200; i++) {
            due(seed, "output " + i, mill.output(i), mill.said(i));
        }
        return answer == 1;
    }

    public static void main(String[] args) {
        int ended = 0;
        for (int seed = 0; seed < 1500; seed++) {
            ended += program(seed) ? 1 : 0;
        }
        Due.same("more than 100 programs end by themselves", Boolean.toString(ended > 100), "true");
        Due.finish("ToolMillAgree");
    }
}
