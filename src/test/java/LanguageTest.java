import java.io.IOException;
import java.nio.charset.StandardCharsets;
import java.nio.file.Files;
import java.nio.file.Path;
import java.util.List;
import java.util.regex.Matcher;
import java.util.regex.Pattern;

/** What of ../shared/LANGUAGE.md can be seen in the text of the program; it is run from the project's folder. */
public final class LanguageTest {
    private static final Path PROGRAM = Path.of("src/main/java/Spanbooker.java");

    /** The program can do without all of these, though the rules let some of them be. */
    private static final String[] UNUSED = {
        "import", "package", "try", "catch", "finally", "synchronized", "assert", "instanceof", "volatile",
        "transient", "native", "strictfp", "float", "double", "Object", "System", "Thread", "Runtime", "Random",
        "equals", "hashCode", "getClass", "var", "protected", "\\w*Exact", "\\w+::\\w+",
    };
    private static final List<String> THROWN = List.of("IndexOutOfBoundsException", "IllegalArgumentException");
    private static final int LONGEST_METHOD = 60;

    private LanguageTest() {
    }

    public static void main(String[] args) throws IOException {
        String text = Files.readString(PROGRAM, StandardCharsets.UTF_8);
        Checks.same("characters above 126", false, text.chars().anyMatch(c -> c > 126));
        String code = text.replaceAll("(?s)/\\*.*?\\*/", "").replaceAll("//[^\n]*", "//")
                .replaceAll("\"[^\"\n]*\"", "\"\"");
        for (String word : UNUSED) {
            Checks.same(word, false, Pattern.compile("\\b" + word + "\\b").matcher(code).find());
        }
        Checks.same("a lambda", false, code.contains("->"));
        Checks.same("a text joined by +", false, Pattern.compile("\"\"\\s*\\+|\\+\\s*\"\"").matcher(code).find());
        dueThrows(code);
        dueStatics(code);
        dueShortMethods(code);
        Checks.end("LanguageTest");
    }

    private static void dueThrows(String code) {
        Matcher found = Pattern.compile("throw\\s+new\\s+(\\w+)|throw\\s").matcher(code);
        while (found.find()) {
            Checks.same("throw " + found.group(1), true, found.group(1) != null && THROWN.contains(found.group(1)));
        }
    }

    private static void dueStatics(String code) {
        Matcher found = Pattern.compile("\\bstatic (?!final)[^;{(]*;").matcher(code);
        Checks.same("a static field that is not final", false, found.find());
        Checks.same("a static block", false, Pattern.compile("static\\s*\\{").matcher(code).find());
    }

    private static void dueShortMethods(String code) {
        int length = 0;
        for (String line : code.split("\n")) {
            boolean isEnd = line.equals("    }") || line.equals("        }");
            length = line.isBlank() ? 0 : length + 1;
            if (isEnd) {
                Checks.same("lines of what ends a method", true, length <= LONGEST_METHOD);
            }
        }
    }
}
