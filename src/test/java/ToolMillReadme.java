import java.io.IOException;
import java.lang.reflect.Method;
import java.lang.reflect.Modifier;
import java.nio.file.Files;
import java.nio.file.Path;
import java.util.ArrayList;
import java.util.List;

/** README.md: its example is the one below, whose answers are looked at, and it names each call. */
public final class ToolMillReadme {
    private ToolMillReadme() {
    }

    private static void example() {
        // EXAMPLE
        ToolMill mill = new ToolMill();

        // 1. A text, sign by sign or four signs a call (the lowest byte first), becomes a unit in the language.
        String counts = "proc main(){var i;while(i<3){out(twice(i));i=i+1;}return in();}";
        for (int i = 0; i < counts.length(); i++) {
            mill.put(counts.charAt(i));
        }
        int first = mill.source();             // 0; NONE with a fault: fault(0) its kind, fault(1) its place

        // 2. The text stays, so it is ended ahead of the next one; this one is in assembly.
        mill.end(0);
        String doubles = ".text twice\n.globl twice\n.kind twice,4\ntwice: sll $v0,$a0,1\njr $ra\n";
        for (int i = 0; i < doubles.length(); i++) {
            mill.put(doubles.charAt(i));
        }
        int second = mill.assemble();          // 1; NONE with a fault: fault(0) its kind, fault(1) its line

        // 3. All units and the runtime (unit 6) are linked: a base address, and so many bytes of memory.
        mill.input(7);                         // 1, so many inputs are there for in()
        int bytes = mill.link(4096, 8192);     // the image's bytes; NONE with a fault: fault(0), fault(1), fault(2) its unit
        int start = mill.section(6, 1, 3);     // where the runtime's _start was laid

        // 4. The machine runs in pieces of up to 20000 steps, until state(0) is no longer 0.
        while (mill.state(0) == 0) {
            mill.run(20000);
        }
        int outcome = mill.state(0);           // 1: it ended by a syscall
        int value = mill.state(1);             // 7, what main returned
        int last = mill.output(2);             // 4, the last of the values 0, 2, 4

        // 5. Units that are all in the language are also worked out without the machine.
        mill.forget();
        mill.end(0);
        String product = "proc main(){out(6*in());return 5;}";
        for (int i = 0; i < product.length(); i++) {
            mill.put(product.charAt(i));
        }
        mill.source();
        int answer = mill.mean(20000);         // 1: it ended
        int said = mill.said(0);               // 42
        int result = mill.meant(1);            // 5
        // END
        Due.is("the first unit", () -> first, 0);
        Due.is("the second unit", () -> second, 1);
        Due.same("the image has bytes", Boolean.toString(bytes > 0), "true");
        Due.same("_start is in the image", Boolean.toString(start >= 4096 && start < 4096 + bytes), "true");
        Due.is("outcome", () -> outcome, 1);
        Due.is("its number", () -> value, 7);
        Due.is("the last output", () -> last, 4);
        Due.is("mean()", () -> answer, 1);
        Due.is("said(0)", () -> said, 42);
        Due.is("meant(1)", () -> result, 5);
    }

    /** The lines between two others, without the blanks that all of them begin with. */
    private static String between(List<String> lines, String from, String to) {
        List<String> inside = new ArrayList<>();
        boolean begun = false;
        for (String line : lines) {
            if (begun && line.strip().equals(to)) {
                // A line end behind the last one would count as a line that begins with no blank.
                return String.join("\n", inside).stripIndent();
            }
            if (begun) {
                inside.add(line);
            }
            begun = begun || line.strip().equals(from);
        }
        return "no such lines: " + from + " to " + to;
    }

    private static void sameExample(List<String> readme) throws IOException {
        List<String> own = Files.readAllLines(Path.of("src/test/java/ToolMillReadme.java"));
        Due.same("the example", between(readme, "```java", "```"), between(own, "// EXAMPLE", "// END"));
    }

    public static void main(String[] args) throws IOException {
        List<String> readme = Files.readAllLines(Path.of("README.md"));
        example();
        sameExample(readme);
        String whole = String.join("\n", readme);
        for (Method method : ToolMill.class.getDeclaredMethods()) {
            if (Modifier.isPublic(method.getModifiers())) {
                Due.same("README.md has a row for " + method.getName(), Boolean.toString(whole.contains("\n| `" + method.getName() + "(")), "true");
            }
        }
        Due.same("README.md tells how tests are run", Boolean.toString(whole.contains("`.ci/run`")), "true");
        Due.finish("ToolMillReadme");
    }
}
