import java.lang.reflect.Constructor;
import java.lang.reflect.Field;
import java.lang.reflect.Method;
import java.lang.reflect.Modifier;
import java.util.Arrays;
import java.util.Set;
import java.util.TreeSet;

/** The public face: all of the document's members with their exceptions, and none beside them. */
public final class FaceTest {
    private static final Check check = new Check("FaceTest");

    private static final String[] FACE = {
        "int NONE",
        "CreditWire()",
        "void link(int, int, int, int) IllegalArgumentException",
        "int depth(int, int) IllegalArgumentException IllegalStateException",
        "int weight(int, int) IllegalArgumentException",
        "int arbiter(int) IllegalArgumentException",
        "int mask(int) UnsupportedOperationException",
        "int free()",
        "int feed(int, long, long) IllegalArgumentException UnsupportedOperationException",
        "int offer(int) IllegalArgumentException UnsupportedOperationException",
        "int run(int) IllegalArgumentException",
        "int take(int) IllegalArgumentException",
        "int answer(int)",
        "int look(int, int)",
        "int packet(int, int)",
        "int wire(int, int)",
        "int buffer(int, int, int)",
        "int back(int, int)",
        "int count(int)",
    };

    public static void main(String[] args) {
        Class<?> c = CreditWire.class;
        check.due("public and final", c.getModifiers() & (Modifier.PUBLIC | Modifier.FINAL),
                Modifier.PUBLIC | Modifier.FINAL);
        Set<String> due = new TreeSet<>(Arrays.asList(FACE));
        Set<String> got = new TreeSet<>();
        for (Field f : c.getDeclaredFields()) {
            if (isOpen(f.getModifiers())) {
                got.add(f.getType() + " " + f.getName());
            }
            if (Modifier.isStatic(f.getModifiers())) {
                check.due("static " + f.getName() + " is final",
                        Modifier.isFinal(f.getModifiers()) ? 1 : 0, 1);
            }
        }
        for (Constructor<?> k : c.getDeclaredConstructors()) {
            if (isOpen(k.getModifiers())) {
                got.add("CreditWire(" + names(k.getParameterTypes(), ", ") + ")");
            }
        }
        for (Method m : c.getDeclaredMethods()) {
            if (isOpen(m.getModifiers())) {
                got.add(told(m));
            }
        }
        check.dueText("the face", got.toString(), due.toString());
        noHiddenMethodBearsAPublicName(c);
        check.end();
    }

    private static void noHiddenMethodBearsAPublicName(Class<?> c) {
        Set<String> open = new TreeSet<>();
        for (Method m : c.getMethods()) {
            if (m.getDeclaringClass() == c) {
                open.add(m.getName());
            }
        }
        for (Method m : c.getDeclaredMethods()) {
            check.due("hidden " + m.getName(),
                    !isOpen(m.getModifiers()) && open.contains(m.getName()) ? 1 : 0, 0);
        }
        for (Class<?> inside : c.getDeclaredClasses()) {
            check.due(inside.getName() + " is static",
                    Modifier.isStatic(inside.getModifiers()) ? 1 : 0, 1);
            for (Method m : inside.getDeclaredMethods()) {
                check.due("inside: " + m.getName(), open.contains(m.getName()) ? 1 : 0, 0);
            }
        }
    }

    private static boolean isOpen(int modifiers) {
        return !Modifier.isPrivate(modifiers);
    }

    private static String told(Method m) {
        String thrown = names(m.getExceptionTypes(), " ");
        return m.getReturnType() + " " + m.getName() + "(" + names(m.getParameterTypes(), ", ") + ")"
                + (thrown.isEmpty() ? "" : " " + thrown);
    }

    private static String names(Class<?>[] some, String between) {
        StringBuilder text = new StringBuilder();
        for (Class<?> one : some) {
            text.append(text.length() == 0 ? "" : between).append(one.getSimpleName());
        }
        return text.toString();
    }
}
