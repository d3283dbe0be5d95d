import java.io.File;
import java.io.IOException;
import java.lang.reflect.Method;
import java.lang.reflect.Modifier;
import java.nio.file.Files;
import java.nio.file.Path;
import java.util.regex.Matcher;
import java.util.regex.Pattern;

/**
 * README.md tells no call that answers otherwise, and leaves out no call of the class and no test.
 * It is run from the project's root.
 */
public final class ReadmeTest {
    private static final Pattern CALL = Pattern.compile("circle\\.(\\w+)\\(([^)]*)\\);\\s*// (-?\\w+).*");
    private static final Checks CHECKS = new Checks();

    public static void main(String[] args) throws IOException, ReflectiveOperationException {
        String page = Files.readString(Path.of("README.md"));
        CHECKS.due("calls in the examples", runExamples(page), 20);
        for (Method method : PeerCircle.class.getDeclaredMethods()) {
            if (Modifier.isPublic(method.getModifiers())) {
                dueNamed(page, method.getName());
            }
        }
        String[] tests = new File("src/test/java").list((place, name) -> name.endsWith("Test.java"));
        for (String file : tests) {
            dueNamed(page, file.replace(".java", ""));
        }
        CHECKS.end();
    }

    private static void dueNamed(String page, String name) {
        CHECKS.due("README.md names " + name, page.contains("`" + name + "`"), true);
    }

    /** Each line that begins with a call must tell its answer, so that none is left out by the way it is written. */
    private static int runExamples(String page) throws ReflectiveOperationException {
        PeerCircle circle = new PeerCircle();
        int calls = 0;
        for (String line : page.split("\n")) {
            if (line.equals("PeerCircle circle = new PeerCircle();")) {
                circle = new PeerCircle();
            } else if (line.startsWith("circle.")) {
                Matcher call = CALL.matcher(line);
                boolean isTold = call.matches();
                CHECKS.due("can be read: " + line, isTold, true);
                if (isTold) {
                    calls++;
                    Object answer = ask(circle, call.group(1), call.group(2));
                    CHECKS.due(line + " (answered " + answer + ")", String.valueOf(answer).equals(call.group(3)), true);
                }
            }
        }
        return calls;
    }

    private static Object ask(PeerCircle circle, String name, String arguments) throws ReflectiveOperationException {
        String[] texts = arguments.isEmpty() ? new String[0] : arguments.split(", ");
        Class<?>[] types = new Class<?>[texts.length];
        Object[] values = new Object[texts.length];
        for (int i = 0; i < texts.length; i++) {
            boolean isTruth = texts[i].equals("true") || texts[i].equals("false");
            types[i] = isTruth ? boolean.class : int.class;
            values[i] = isTruth ? (Object) Boolean.valueOf(texts[i]) : (Object) Integer.decode(texts[i]);
        }
        return PeerCircle.class.getMethod(name, types).invoke(circle, values);
    }
}
