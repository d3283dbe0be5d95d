import java.lang.reflect.Constructor;
import java.lang.reflect.Field;
import java.lang.reflect.Method;
import java.lang.reflect.Modifier;
import java.util.Set;
import java.util.TreeSet;

/** The public face is the document's and no more (LANGUAGE.md, rules 1, 5 and 11). */
public final class FaceTest {
    private static final String[] FACE = {
        "int feed(int,int,int,int,int)", "int rules(int)", "int farm(int,int)", "boolean buys(int,int,boolean)",
        "boolean weight(int,int)", "int lay()", "int visitor(int,int)", "boolean tells(int,int,int,boolean)",
        "int breaches(int)", "int weighs(int)", "int vouches(int,int)", "int trust(int,int)", "boolean sell(int,int)",
        "int year()", "int sealed(int)", "int barred(int,int)", "int look(int,int)", "int count(int)"};

    private static final Checks CHECKS = new Checks();

    public static void main(String[] args) {
        Class<PeerCircle> type = PeerCircle.class;
        CHECKS.due("the class is public and final", type.getModifiers(), Modifier.PUBLIC | Modifier.FINAL);
        CHECKS.due("NONE", PeerCircle.NONE, -1);
        checkMethods(type);
        checkFields(type);
        Constructor<?>[] constructors = type.getDeclaredConstructors();
        CHECKS.due("constructors", constructors.length, 1);
        CHECKS.due("a public one", constructors[0].getModifiers(), Modifier.PUBLIC);
        CHECKS.due("without parameters", constructors[0].getParameterCount(), 0);
        Class<?>[] inside = type.getDeclaredClasses();
        CHECKS.due("at most twelve classes", inside.length <= 11, true);
        for (Class<?> one : inside) {
            CHECKS.due(one + " is static", Modifier.isStatic(one.getModifiers()), true);
            CHECKS.due(one + " is not public", Modifier.isPublic(one.getModifiers()) || Modifier.isProtected(one.getModifiers()), false);
            checkStaticsAndSize(one);
        }
        checkStaticsAndSize(type);
        CHECKS.end();
    }

    private static void checkMethods(Class<?> type) {
        Set<String> due = new TreeSet<>(Set.of(FACE));
        Set<String> publicNames = new TreeSet<>();
        for (String one : FACE) {
            publicNames.add(one.substring(one.indexOf(' ') + 1, one.indexOf('(')));
        }
        for (Method method : type.getDeclaredMethods()) {
            if (Modifier.isPrivate(method.getModifiers())) {
                CHECKS.due("private " + method.getName() + " bears a public name", publicNames.contains(method.getName()), false);
            } else {
                CHECKS.due(method + " is public and no more", method.getModifiers(), Modifier.PUBLIC);
                CHECKS.due(signature(method) + " is of the face", due.remove(signature(method)), true);
            }
        }
        CHECKS.due("missing: " + due, due.size(), 0);
    }

    private static String signature(Method method) {
        StringBuilder text = new StringBuilder(method.getReturnType().getName());
        text.append(' ').append(method.getName()).append('(');
        for (Class<?> parameter : method.getParameterTypes()) {
            text.append(text.charAt(text.length() - 1) == '(' ? "" : ",").append(parameter.getName());
        }
        return text.append(')').toString();
    }

    private static void checkFields(Class<?> type) {
        for (Field field : type.getDeclaredFields()) {
            boolean isNone = field.getName().equals("NONE");
            CHECKS.due(field + " is private", Modifier.isPrivate(field.getModifiers()), !isNone);
        }
    }

    private static void checkStaticsAndSize(Class<?> type) {
        int fields = 0;
        for (Field field : type.getDeclaredFields()) {
            if (Modifier.isStatic(field.getModifiers())) {
                CHECKS.due(field + " is final", Modifier.isFinal(field.getModifiers()), true);
            } else {
                fields++;
            }
        }
        CHECKS.due(type + " has some twenty fields at most", fields <= 20, true);
        for (Method method : type.getDeclaredMethods()) {
            CHECKS.due(method + " takes at most seven", method.getParameterCount() <= 7, true);
        }
    }
}
