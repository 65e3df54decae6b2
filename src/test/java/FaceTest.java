import java.lang.reflect.Constructor;
import java.lang.reflect.Field;
import java.lang.reflect.Method;
import java.lang.reflect.Modifier;
import java.util.ArrayList;
import java.util.List;
import java.util.Set;
import java.util.TreeSet;

/** The public face: all of the document's members with their exceptions, and none beside them. */
public final class FaceTest {
    private static final Check check = new Check("FaceTest");
    private static final Document document = new Document();

    public static void main(String[] args) throws IllegalAccessException {
        Class<?> c = CreditWire.class;
        String face = document.section("The public face");
        check.due("the document's class", face.contains("public final class CreditWire {") ? 1 : 0, 1);
        check.dueText("the class", Modifier.toString(c.getModifiers()), "public final");
        check.dueText("the class above it", c.getSuperclass().getName(), "java.lang.Object");
        check.due("interfaces", c.getInterfaces().length, 0);
        Set<String> due = new TreeSet<>();
        for (String member : document.face()) {
            due.add("public " + withoutNames(member));
        }
        check.due("members of the face", due.size(), 19);
        check.dueText("the face", openMembers(c).toString(), due.toString());
        promisesTellTheSame();
        noHiddenMethodBearsAPublicName(c);
        check.end();
    }

    /** The document's members twice: a promise has what the face has. */
    private static void promisesTellTheSame() {
        List<String> face = new ArrayList<>(document.face());
        face.remove("static final int NONE = -1");
        List<String> promised = new ArrayList<>();
        for (Document.Promised one : document.promises()) {
            promised.add(one.member());
            check.due("number of a promise", one.number(), promised.size());
        }
        check.dueText("what the promises tell", promised.toString(), face.toString());
    }

    private static Set<String> openMembers(Class<?> c) throws IllegalAccessException {
        Set<String> open = new TreeSet<>();
        for (Field f : c.getDeclaredFields()) {
            if (isOpen(f.getModifiers())) {
                open.add(Modifier.toString(f.getModifiers()) + " " + f.getType() + " " + f.getName()
                        + " = " + f.get(null));
            }
        }
        for (Constructor<?> k : c.getDeclaredConstructors()) {
            if (isOpen(k.getModifiers())) {
                open.add(Modifier.toString(k.getModifiers()) + " CreditWire("
                        + names(k.getParameterTypes()) + ")" + thrown(k.getExceptionTypes()));
            }
        }
        for (Method m : c.getDeclaredMethods()) {
            if (isOpen(m.getModifiers())) {
                open.add(Modifier.toString(m.getModifiers()) + " " + m.getReturnType() + " "
                        + m.getName() + "(" + names(m.getParameterTypes()) + ")"
                        + thrown(m.getExceptionTypes()));
            }
        }
        return open;
    }

    private static void noHiddenMethodBearsAPublicName(Class<?> c) {
        Set<String> open = new TreeSet<>();
        for (Method m : c.getMethods()) {
            if (m.getDeclaringClass() == c) {
                open.add(m.getName());
            }
        }
        for (Method m : c.getDeclaredMethods()) {
            check.due("hidden " + m.getName(),
                    !isOpen(m.getModifiers()) && open.contains(m.getName()) ? 1 : 0, 0);
        }
        for (Class<?> inside : c.getDeclaredClasses()) {
            check.due(inside.getName() + " is static",
                    Modifier.isStatic(inside.getModifiers()) ? 1 : 0, 1);
            for (Method m : inside.getDeclaredMethods()) {
                check.due("inside: " + m.getName(), open.contains(m.getName()) ? 1 : 0, 0);
            }
        }
    }

    private static boolean isOpen(int modifiers) {
        return !Modifier.isPrivate(modifiers);
    }

    /** As in: int depth(int, int). */
    private static String withoutNames(String member) {
        return member.replaceAll("(int|long) \\w+(?=[,)])", "$1");
    }

    private static String thrown(Class<?>[] some) {
        return some.length == 0 ? "" : " throws " + names(some);
    }

    private static String names(Class<?>[] some) {
        StringBuilder text = new StringBuilder();
        for (Class<?> one : some) {
            text.append(text.length() == 0 ? "" : ", ").append(one.getSimpleName());
        }
        return text.toString();
    }
}
