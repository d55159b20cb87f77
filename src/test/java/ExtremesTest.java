import java.lang.reflect.InvocationTargetException;
import java.lang.reflect.Method;
import java.lang.reflect.Modifier;
import java.util.Arrays;
import java.util.Comparator;
import java.util.NoSuchElementException;
import java.util.Set;
import java.util.function.Supplier;

/** No call throws by itself, for any ints in any state: each call of the face with each of some far and near ints. */
public final class ExtremesTest {
    private static final int[] INTS = {Integer.MIN_VALUE, Integer.MIN_VALUE + 1, -65536, -33, -2, -1, 0, 1, 2, 3, 4, 5, 6, 9, 12, 35, 36
        , 60, 63, 64, 80, 1 << 16, Integer.MAX_VALUE - 1, Integer.MAX_VALUE};
    private static final Set<String> THROWING = Set.of("field", "pram", "row");
    private static final int MOST_CALLS = 480;

    private static final Check check = new Check("ExtremesTest");
    private static PramGardens asked;
    private static int calls;

    public static void main(String[] args) throws Exception {
        check.startCase("no call throws by itself");
        everywhere(PramGardens::new);
        everywhere(() -> Check.garden("22####", ""));
        everywhere(() -> {
            PramGardens g = Check.garden("66" + "abcdef0123#.".repeat(3), "000;050;530;553");
            g.looses(2);
            g.minutes(3);
            return Check.write(g, "n1p01");
        });
        check.finish();
    }

    private static void everywhere(Supplier<PramGardens> state) throws Exception {
        asked = state.get();
        Method[] face = PramGardens.class.getDeclaredMethods();
        Arrays.sort(face, Comparator.comparing(Method::getName));
        for (Method call : face) {
            if (Modifier.isPublic(call.getModifiers())) {
                Object[] arguments = new Object[call.getParameterCount()];
                // of four ints all together would be too many: the last two go together
                each(call, arguments, 0, state);
            }
        }
    }

    private static void each(Method call, Object[] arguments, int from, Supplier<PramGardens> state) throws Exception {
        if (from == arguments.length) {
            ask(call, arguments, state);
            return;
        }
        for (int one : INTS) {
            arguments[from] = one;
            if (from == 2 && arguments.length == 4) {
                arguments[3] = one;
                ask(call, arguments, state);
            } else {
                each(call, arguments, from + 1, state);
            }
        }
    }

    private static void ask(Method call, Object[] arguments, Supplier<PramGardens> state) throws Exception {
        if (++calls > MOST_CALLS) {
            asked = state.get();
            calls = 0;
        }
        try {
            check.is(call.getName(), call.invoke(asked, arguments) != null, true);
        } catch (InvocationTargetException e) {
            boolean due = e.getCause().getClass() == NoSuchElementException.class && THROWING.contains(call.getName());
            check.is(call.getName() + Arrays.toString(arguments) + " threw " + e.getCause(), due, true);
        }
    }
}
