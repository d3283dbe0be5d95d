import java.lang.reflect.InvocationTargetException;
import java.lang.reflect.Method;
import java.lang.reflect.Modifier;
import java.util.Arrays;
import java.util.Comparator;
import java.util.function.BooleanSupplier;
import java.util.function.IntSupplier;

/**
 * A test class made of cases: each package-visible method without parameters is one, and all of them are run,
 * so that none is written and then forgotten. A case says what is due; what is wrong is printed with its name.
 */
abstract class Cases {
    static final int NONE = PeerCircle.NONE;
    static final int LEAST = Integer.MIN_VALUE;
    static final int MOST = Integer.MAX_VALUE;

    /** Wrong for all that has numbers from 0 to 9 or fewer; those that a shift takes for 0 and 1 are among them. */
    static final int[] NO_FARM_OF_TEN = {-1, 10, 31, 32, 33, 64, 256, MOST, LEAST, LEAST + 1};

    private final Checks checks = new Checks();
    private String name = "";

    final void runAll() throws IllegalAccessException {
        Method[] all = getClass().getDeclaredMethods();
        Arrays.sort(all, Comparator.comparing(Method::getName));
        int cases = 0;
        for (Method method : all) {
            if (isCase(method)) {
                cases++;
                run(method);
            }
        }
        System.out.println(cases + " cases");
        checks.end();
    }

    private static boolean isCase(Method method) {
        return method.getParameterCount() == 0 && method.getReturnType() == void.class
            && !Modifier.isPrivate(method.getModifiers()) && !Modifier.isStatic(method.getModifiers()) && !method.isSynthetic();
    }

    private void run(Method method) throws IllegalAccessException {
        name = method.getName();
        try {
            method.invoke(this);
        } catch (InvocationTargetException thrown) {
            thrown.getCause().printStackTrace(System.out);
            checks.due(name + " threw", 1, 0);
        }
    }

    final void due(String call, long got, long want) {
        checks.due(name + ": " + call, got, want);
    }

    final void due(String call, boolean got, boolean want) {
        checks.due(name + ": " + call, got, want);
    }

    /** A text becomes the rules of a new circle. */
    final void dueRules(String text, int want) {
        due("rules '" + text + "'", Checks.rules(new PeerCircle(), text), want);
    }

    /** The call answers NONE and changes nothing that can be asked. */
    final void dueNone(PeerCircle circle, String call, IntSupplier asked) {
        String before = State.of(circle);
        due(call, asked.getAsInt(), NONE);
        dueSame(call, before, State.of(circle));
    }

    /** The call answers false and changes nothing that can be asked. */
    final void dueFalse(PeerCircle circle, String call, BooleanSupplier asked) {
        String before = State.of(circle);
        due(call, asked.getAsBoolean(), false);
        dueSame(call, before, State.of(circle));
    }

    final void dueSame(String call, String before, String behind) {
        String[] old = before.split("\n");
        String[] now = behind.split("\n");
        for (int line = 0; line < old.length; line++) {
            due(call + " changed " + old[line] + " to " + now[line], old[line].equals(now[line]), true);
        }
    }
}
