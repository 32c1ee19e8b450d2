import java.io.IOException;
import java.nio.charset.StandardCharsets;
import java.nio.file.Files;
import java.nio.file.Path;
import java.util.List;
import java.util.Map;
import java.util.Set;
import java.util.TreeMap;
import java.util.TreeSet;
import java.util.regex.Matcher;
import java.util.regex.Pattern;

/** What of ../shared/LANGUAGE.md can be seen in the text of the program; it is run from the project's folder. */
public final class LanguageTest {
    private static final Path PROGRAM = Path.of("src/main/java/Spanbooker.java");

    /** The program can do without all of these, though the rules let some of them be. */
    private static final String[] UNUSED = {
        "import", "package", "try", "catch", "finally", "synchronized", "assert", "instanceof", "volatile",
        "transient", "native", "strictfp", "float", "double", "Object", "System", "Thread", "Runtime", "Random",
        "equals", "hashCode", "getClass", "var", "protected", "\\w*Exact", "\\w+::\\w+",
    };
    private static final List<String> THROWN = List.of("IndexOutOfBoundsException", "IllegalArgumentException");
    private static final int LONGEST_METHOD = 60;
    private static final int DEEPEST_CALL = 8;
    private static final Pattern METHOD = Pattern.compile("\n( {4}| {8})(?:[\\w\\[\\]]+ )*(\\w+)\\([^)]*\\)[^;{]*\\{");

    private LanguageTest() {
    }

    public static void main(String[] args) throws IOException {
        String text = Files.readString(PROGRAM, StandardCharsets.UTF_8);
        Checks.same("characters above 126", false, text.chars().anyMatch(c -> c > 126));
        String code = text.replaceAll("(?s)/\\*.*?\\*/", "").replaceAll("//[^\n]*", "//")
                .replaceAll("\"[^\"\n]*\"", "\"\"");
        for (String word : UNUSED) {
            Checks.same(word, false, Pattern.compile("\\b" + word + "\\b").matcher(code).find());
        }
        Checks.same("a lambda", false, code.contains("->"));
        Checks.same("a text joined by +", false, Pattern.compile("\"\"\\s*\\+|\\+\\s*\"\"").matcher(code).find());
        dueThrows(code);
        dueStatics(code);
        dueShortMethods(code);
        dueShallowCalls(code);
        Checks.end("LanguageTest");
    }

    private static void dueThrows(String code) {
        Matcher found = Pattern.compile("throw\\s+new\\s+(\\w+)|throw\\s").matcher(code);
        while (found.find()) {
            Checks.same("throw " + found.group(1), true, found.group(1) != null && THROWN.contains(found.group(1)));
        }
    }

    private static void dueStatics(String code) {
        Matcher found = Pattern.compile("\\bstatic (?!final)[^;{(]*;").matcher(code);
        Checks.same("a static field that is not final", false, found.find());
        Checks.same("a static block", false, Pattern.compile("static\\s*\\{").matcher(code).find());
    }

    private static void dueShortMethods(String code) {
        int length = 0;
        for (String line : code.split("\n")) {
            boolean isEnd = line.equals("    }") || line.equals("        }");
            length = line.isBlank() ? 0 : length + 1;
            if (isEnd) {
                Checks.same("lines of what ends a method", true, length <= LONGEST_METHOD);
            }
        }
    }

    /** Which methods each method calls, by their names: no two methods of the program that differ bear the same one. */
    private static Map<String, Set<String>> calls(String code) {
        Map<String, String> bodies = new TreeMap<>();
        Matcher found = METHOD.matcher(code);
        while (found.find()) {
            String end = "\n" + found.group(1) + "}";
            String name = found.group(2);
            Checks.same("another method " + name, false, bodies.containsKey(name));
            bodies.put(name, code.substring(found.end(), code.indexOf(end, found.end())));
        }
        Map<String, Set<String>> calls = new TreeMap<>();
        for (Map.Entry<String, String> body : bodies.entrySet()) {
            Set<String> called = new TreeSet<>();
            Matcher call = Pattern.compile("\\b(\\w+)\\(").matcher(body.getValue());
            while (call.find()) {
                if (bodies.containsKey(call.group(1))) {
                    called.add(call.group(1));
                }
            }
            calls.put(body.getKey(), called);
        }
        return calls;
    }

    /** How many methods stand open at once at most in a call of that one, with itself; MAX_VALUE of a recursion. */
    private static int depth(Map<String, Set<String>> calls, String method, Set<String> open) {
        if (open.contains(method)) {
            return Integer.MAX_VALUE;
        }
        Set<String> inside = new TreeSet<>(open);
        inside.add(method);
        int deepest = inside.size();
        for (String called : calls.get(method)) {
            deepest = Math.max(deepest, depth(calls, called, inside));
        }
        return deepest;
    }

    private static void dueShallowCalls(String code) {
        Map<String, Set<String>> calls = calls(code);
        Checks.same("digest() and isSound() found", true,
                calls.containsKey("digest") && calls.get("digest").contains("isSound"));
        for (String method : calls.keySet()) {
            int depth = depth(calls, method, Set.of());
            Checks.same("how deep " + method + "() goes: " + depth + ", at most " + DEEPEST_CALL, true, depth <= DEEPEST_CALL);
        }
    }
}
