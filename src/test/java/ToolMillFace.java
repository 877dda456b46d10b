import java.lang.reflect.Constructor;
import java.lang.reflect.Field;
import java.lang.reflect.Method;
import java.lang.reflect.Modifier;
import java.util.Arrays;
import java.util.TreeSet;

/** The public face: what the document has, with its exceptions, and nothing else (rules 1 and 5 of the language). */
public final class ToolMillFace {
    private static final String[] METHODS = {
        "int put(int) IllegalArgumentException UnsupportedOperationException",
        "void end(int) IllegalArgumentException",
        "int source() IllegalStateException",
        "int assemble() IllegalStateException",
        "void forget()",
        "int fault(int) IllegalArgumentException",
        "int typed(int,int) NoSuchElementException",
        "int unit(int,int) NoSuchElementException IllegalArgumentException",
        "int section(int,int,int) NoSuchElementException IllegalArgumentException",
        "int byteOf(int,int,int) NoSuchElementException",
        "int label(int,int,int) NoSuchElementException IllegalArgumentException",
        "int relocation(int,int,int) NoSuchElementException IllegalArgumentException",
        "int input(int) UnsupportedOperationException",
        "int link(int,int) IllegalStateException IllegalArgumentException",
        "int run(int) IllegalStateException IllegalArgumentException",
        "int state(int) IllegalStateException IllegalArgumentException",
        "int register(int) IllegalStateException IllegalArgumentException",
        "int word(int) IllegalStateException IndexOutOfBoundsException",
        "int output(int) IllegalStateException IndexOutOfBoundsException",
        "int listing(int,int) IndexOutOfBoundsException",
        "int mean(int) IllegalStateException IllegalArgumentException",
        "int meant(int) IllegalStateException IllegalArgumentException",
        "int said(int) IllegalStateException IndexOutOfBoundsException",
    };

    private ToolMillFace() {
    }

    private static String told(Method method) {
        StringBuilder text = new StringBuilder(method.getReturnType().getSimpleName()).append(' ').append(method.getName()).append('(');
        for (int i = 0; i < method.getParameterCount(); i++) {
            text.append(i == 0 ? "" : ",").append(method.getParameterTypes()[i].getSimpleName());
        }
        text.append(')');
        for (Class<?> thrown : method.getExceptionTypes()) {
            text.append(' ').append(thrown.getSimpleName());
        }
        return text.toString();
    }

    private static void methods() {
        TreeSet<String> due = new TreeSet<>(Arrays.asList(METHODS));
        TreeSet<String> names = new TreeSet<>();
        TreeSet<String> got = new TreeSet<>();
        for (Method method : ToolMill.class.getDeclaredMethods()) {
            if (Modifier.isPublic(method.getModifiers())) {
                got.add(told(method));
                names.add(method.getName());
                Due.same(method.getName() + " is no static one", Boolean.toString(Modifier.isStatic(method.getModifiers())), "false");
            }
        }
        Due.same("public methods", got.toString(), due.toString());
        for (Method method : ToolMill.class.getDeclaredMethods()) {
            if (!Modifier.isPublic(method.getModifiers()) && !method.isSynthetic()) {
                Due.same(method.getName() + " is private", Boolean.toString(Modifier.isPrivate(method.getModifiers())), "true");
                Due.same(method.getName() + " has a name of its own", Boolean.toString(names.contains(method.getName())), "false");
            }
        }
    }

    private static void fields() {
        for (Field field : ToolMill.class.getDeclaredFields()) {
            boolean face = field.getName().equals("NONE");
            Due.same(field.getName() + " is private but for NONE", Modifier.toString(field.getModifiers()).split(" ")[0], face ? "public" : "private");
        }
        Due.is("NONE", () -> ToolMill.NONE, -1);
        for (Class<?> inside : ToolMill.class.getDeclaredClasses()) {
            Due.same(inside.getSimpleName() + " is static", Boolean.toString(Modifier.isStatic(inside.getModifiers())), "true");
            Due.same(inside.getSimpleName() + " is not public", Boolean.toString(Modifier.isPublic(inside.getModifiers()) || Modifier.isProtected(inside.getModifiers())), "false");
            for (Field field : inside.getDeclaredFields()) {
                boolean still = !Modifier.isStatic(field.getModifiers()) || Modifier.isFinal(field.getModifiers());
                Due.same(inside.getSimpleName() + "." + field.getName() + " is no static state", Boolean.toString(still), "true");
            }
        }
    }

    public static void main(String[] args) {
        Due.same("the class", Modifier.toString(ToolMill.class.getModifiers()), "public final");
        Constructor<?>[] constructors = ToolMill.class.getDeclaredConstructors();
        Due.is("constructors", () -> constructors.length, 1);
        Due.same("the constructor", Modifier.toString(constructors[0].getModifiers()) + constructors[0].getParameterCount(), "public0");
        Due.is("its exceptions", () -> constructors[0].getExceptionTypes().length, 0);
        methods();
        fields();
        Due.finish("ToolMillFace");
    }
}
