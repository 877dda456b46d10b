import com.sun.management.ThreadMXBean;
import java.lang.management.ManagementFactory;
import java.lang.reflect.Array;
import java.lang.reflect.Field;
import java.lang.reflect.Modifier;
import java.util.IdentityHashMap;

/** Rule 12: the rows are made by the constructor, and no call makes any, however much it is asked to do. */
public final class ToolMillRoom {
    /** A part of the 7.3 million that a run may make, and of its 600,000 objects. */
    private static final long MOST_ELEMENTS = 1000000;
    private static final int MOST_OBJECTS = 1000;
    /** A builder of a short text may grow once; a row of a unit is far above that. */
    private static final long MOST_BYTES_OF_A_CALL = 256;

    private static final String UNIT =
        "var v;var a[200];proc f(x,y){var l[99];l[x]=y;return l[x]+v;}proc main(){var i;while(i<50){a[i]=f(i,i+1);out(a[i]);i=i+1;}return in();}";
    private static final String OTHER = "proc g(x){if(x<1){return 0;}return x+g(x-1);}";
    private static final String OBJECT =
        ".macro twice a\n.word \\a,\\a\n.endm\n.data d\n.rept 99\ntwice d\n.endr\nd: .space 4000\n.text t\n.globl t\nt: b t\n.if 1\nla $t0,d\n.endif\n";

    private final ThreadMXBean threads;
    private final long thread = Thread.currentThread().getId();
    private boolean asks;

    private ToolMillRoom(ThreadMXBean threads) {
        this.threads = threads;
    }

    /** All arrays and objects that hang on an object of the class. */
    private static void gather(Object from, IdentityHashMap<Object, Object> seen) throws IllegalAccessException {
        boolean own = from != null && from.getClass().getName().startsWith("ToolMill");
        boolean row = from != null && from.getClass().isArray();
        if (!own && !row || seen.put(from, from) != null) {
            return;
        }
        if (row) {
            for (int i = 0; !from.getClass().getComponentType().isPrimitive() && i < Array.getLength(from); i++) {
                gather(Array.get(from, i), seen);
            }
            return;
        }
        for (Field field : from.getClass().getDeclaredFields()) {
            if (!Modifier.isStatic(field.getModifiers()) && !field.getType().isPrimitive()) {
                field.setAccessible(true);
                gather(field.get(from), seen);
            }
        }
    }

    private static long elements(IdentityHashMap<Object, Object> seen) {
        long elements = 0;
        for (Object of : seen.keySet()) {
            elements += of.getClass().isArray() ? Array.getLength(of) : of.getClass().getDeclaredFields().length;
        }
        return elements;
    }

    private void call(String what, Due.Call call) {
        long ahead = threads.getThreadAllocatedBytes(thread);
        call.answer();
        long made = threads.getThreadAllocatedBytes(thread) - ahead;
        if (asks) {
            Due.same(what + " makes little", made <= MOST_BYTES_OF_A_CALL ? "little" : made + " bytes", "little");
        }
    }

    private void calls(ToolMill mill) {
        for (int round = 0; round < 3; round++) {
            Due.write(mill, UNIT);
            call("source() of " + round, mill::source);
            for (int i = 1; i < 6; i++) {
                Due.write(mill, OTHER.replace('g', (char) ('g' + i)));
                call("source() of " + round + ", unit " + i, mill::source);
            }
            askUnits(mill);
            call("forget()", () -> {
                mill.forget();
                return 0;
            });
            for (int i = 0; i < 6; i++) {
                Due.write(mill, i == round ? "b 1b" : OBJECT);
                call("assemble() of " + round + ", unit " + i, mill::assemble);
            }
            mill.forget();
            Due.write(mill, "proc main(){x;}");
            call("source() with a fault", mill::source);
        }
    }

    private void askUnits(ToolMill mill) {
        call("input()", () -> mill.input(7));
        call("link()", () -> mill.link(0, 65536));
        call("run()", () -> mill.run(20000));
        call("mean()", () -> mill.mean(20000));
        call("output()", () -> mill.output(0));
        call("said()", () -> mill.said(0));
        call("state()", () -> mill.state(6));
        call("meant()", () -> mill.meant(2));
        call("word()", () -> mill.word(0));
        call("register()", () -> mill.register(29));
        call("listing()", () -> mill.listing(-1, 3));
        call("listing()", () -> mill.listing(0x8FBF0010, 3));
        call("typed()", () -> mill.typed(0, 9));
        call("unit()", () -> mill.unit(0, 3));
        call("section()", () -> mill.section(0, 0, 3));
        call("byteOf()", () -> mill.byteOf(0, 1, 0));
        call("label()", () -> mill.label(0, 0, 10));
        call("relocation()", () -> mill.relocation(0, 0, 10));
        call("fault()", () -> mill.fault(0));
        call("end()", () -> {
            mill.end(0);
            return 0;
        });
        call("put()", () -> mill.put(65));
    }

    public static void main(String[] args) throws IllegalAccessException {
        ToolMill mill = new ToolMill();
        IdentityHashMap<Object, Object> ahead = new IdentityHashMap<>();
        gather(mill, ahead);
        Due.same("elements of a new object", elements(ahead) <= MOST_ELEMENTS ? "few" : elements(ahead) + "", "few");
        Due.same("objects of a new object", ahead.size() <= MOST_OBJECTS ? "few" : ahead.size() + "", "few");
        ThreadMXBean threads = (ThreadMXBean) ManagementFactory.getThreadMXBean();
        ToolMillRoom room = new ToolMillRoom(threads);
        room.calls(new ToolMill());
        room.asks = threads.isThreadAllocatedMemorySupported() && threads.isThreadAllocatedMemoryEnabled();
        room.calls(mill);
        IdentityHashMap<Object, Object> behind = new IdentityHashMap<>();
        gather(mill, behind);
        behind.keySet().removeAll(ahead.keySet());
        Due.is("rows and objects that calls made", behind::size, 0);
        System.out.println(elements(ahead) + " elements in " + ahead.size() + " objects");
        Due.finish("ToolMillRoom");
    }
}
