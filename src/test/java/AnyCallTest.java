import java.lang.reflect.InvocationTargetException;
import java.lang.reflect.Method;
import java.util.Arrays;
import java.util.Comparator;
import java.util.Random;

/** For any arguments, in any state, a call throws nothing but what its method names. */
public final class AnyCallTest {
    private static final int[] EDGES = {-17, -16, -15, -2, -1, 0, 1, 2, 3, 4, 5, 7, 8, 9, 11, 12, 13,
        15, 16, 17, 31, 32, 33, 59, 60, 61, 249, 250, 251, 5000, 5001, Integer.MIN_VALUE,
        Integer.MIN_VALUE + 1, Integer.MAX_VALUE - 15, Integer.MAX_VALUE};
    private static final Method[] CALLS = calls();

    private AnyCallTest() {
    }

    public static void main(String[] args) {
        Check check = new Check("AnyCallTest");
        for (int seed = 1; seed <= 40; seed++) {
            play(check, new CreditWire(), 8000, new Random(seed));
        }
        check.end();
    }

    /** Many more calls than the 512 of which the document promises anything are fine here. */
    static void play(Check check, CreditWire x, int calls, Random random) {
        for (int i = 0; i < calls; i++) {
            Method call = CALLS[random.nextInt(CALLS.length)];
            if (call.getName().equals("link") && random.nextInt(200) != 0) {
                // A new link is made but seldom, so that tape, masks and packets become full.
                continue;
            }
            Object[] args = new Object[call.getParameterCount()];
            for (int k = 0; k < args.length; k++) {
                boolean isLong = call.getParameterTypes()[k] == long.class;
                args[k] = isLong ? (Object) random.nextLong() : (Object) any(random);
            }
            Class<?> thrown = thrownBy(x, call, args);
            boolean isNamed = Arrays.asList(call.getExceptionTypes()).contains(thrown);
            check.dueText(call.getName() + Arrays.toString(args),
                    thrown == null || isNamed ? "as named" : "throws " + thrown, "as named");
        }
    }

    /** In a fixed order, since that of reflection may differ from one machine to the next. */
    private static Method[] calls() {
        Method[] all = Arrays.stream(CreditWire.class.getMethods())
                .filter(m -> m.getDeclaringClass() == CreditWire.class).toArray(Method[]::new);
        Arrays.sort(all, Comparator.comparing(Method::getName));
        return all;
    }

    /** Small numbers often, so that many calls are not refused. */
    private static int any(Random random) {
        return switch (random.nextInt(8)) {
            case 0 -> random.nextInt();
            case 1 -> EDGES[random.nextInt(EDGES.length)];
            case 2 -> random.nextInt(40);
            default -> random.nextInt(5);
        };
    }

    private static Class<?> thrownBy(CreditWire x, Method call, Object[] args) {
        try {
            call.invoke(x, args);
            return null;
        } catch (InvocationTargetException e) {
            return e.getCause().getClass();
        } catch (IllegalAccessException e) {
            throw new IllegalStateException(e);
        }
    }
}
