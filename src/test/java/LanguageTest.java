import java.io.IOException;
import java.nio.file.Files;
import java.nio.file.Path;
import java.util.List;
import java.util.Set;
import java.util.regex.Matcher;
import java.util.regex.Pattern;

/** The source keeps to what can be seen of LANGUAGE.md by its words. It is run from the project's root. */
public final class LanguageTest {
    private static final Set<String> BANNED = Set.of(
        "throw", "throws", "try", "catch", "finally", "synchronized", "assert", "package", "volatile", "transient",
        "native", "Object", "hashCode", "random", "nanoTime", "currentTimeMillis", "Thread", "var", "toString");
    private static final Set<String> IMPORTS = Set.of(
        "java.util.Arrays", "java.util.ArrayList", "java.util.List", "java.util.Iterator");
    private static final Set<String> LIBRARY_CALLS = Set.of(
        "Arrays.fill", "Arrays.copyOf", "Arrays.copyOfRange", "System.arraycopy", "Integer.bitCount",
        "Math.max", "Math.min", "Math.abs", "Math.floorMod", "Math.floorDiv");

    private static final Checks CHECKS = new Checks();

    public static void main(String[] args) throws IOException {
        List<String> lines = Files.readAllLines(Path.of("src/main/java/PeerCircle.java"));
        String code = withoutCommentsAndTexts(String.join("\n", lines));
        Matcher words = Pattern.compile("\\w+").matcher(code);
        while (words.find()) {
            CHECKS.due("the word " + words.group(), BANNED.contains(words.group()), false);
        }
        for (String sign : new String[] {"->", "::", "@", "\"\"\"", ">>>="}) {
            CHECKS.due("the sign " + sign, code.contains(sign), false);
        }
        Matcher imports = Pattern.compile("import\\s+([\\w.*]+)").matcher(code);
        while (imports.find()) {
            CHECKS.due("import " + imports.group(1), IMPORTS.contains(imports.group(1)), true);
        }
        Matcher calls = Pattern.compile("\\b((?:Arrays|System|Integer|Long|Math|Character|String|List)\\.\\w+)").matcher(code);
        while (calls.find()) {
            CHECKS.due("library call " + calls.group(1), LIBRARY_CALLS.contains(calls.group(1)), true);
        }
        CHECKS.due("a loop without a bound", Pattern.compile("while\\s*\\(\\s*true|for\\s*\\(\\s*;").matcher(code).find(), false);
        CHECKS.due("a static block", Pattern.compile("static\\s*\\{").matcher(code).find(), false);
        checkMethodLengths(lines);
        CHECKS.end();
    }

    private static String withoutCommentsAndTexts(String source) {
        return source.replaceAll("(?s)/\\*.*?\\*/", " ").replaceAll("//[^\n]*", " ")
            .replaceAll("\"(\\\\.|[^\"\\\\])*\"", "\"\"").replaceAll("'(\\\\.|[^'\\\\])'", "0");
    }

    /** A method ends with a brace that is indented as its first line is. */
    private static void checkMethodLengths(List<String> lines) {
        Pattern head = Pattern.compile("^( {4}| {8})[\\w\\[\\]]+( [\\w\\[\\]]+)*\\(.*\\{$");
        for (int at = 0; at < lines.size(); at++) {
            Matcher m = head.matcher(lines.get(at));
            if (m.matches() && !lines.get(at).matches("\\s*(if|for|while|switch|else)\\b.*")) {
                int end = at;
                while (end < lines.size() && !lines.get(end).equals(m.group(1) + "}")) {
                    end++;
                }
                CHECKS.due("short: " + lines.get(at).trim(), end - at < 60, true);
            }
        }
    }
}
