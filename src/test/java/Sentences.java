import java.io.IOException;
import java.nio.charset.StandardCharsets;
import java.nio.file.Files;
import java.nio.file.Path;
import java.util.ArrayList;
import java.util.List;
import java.util.Map;
import java.util.TreeMap;
import java.util.regex.Matcher;
import java.util.regex.Pattern;

/**
 * Tests by the sentence of the document that each holds to. The sentences are looked up in the document, and in the
 * end each of the document's sentences must have been told: see untold(). Section 0 is all that is ahead of promise 1.
 */
final class Sentences {
    static final int DESCRIPTION = 0;
    private static final int LAST_PROMISE = 49;
    private static final Path DOCUMENT = Path.of("../shared/DOC.md");
    private static final Pattern PLAIN_ARGUMENT = Pattern.compile("- \\w+: (?!.*(\\d|or the same|a set)).*");
    private static final List<String> PROMISE_NOTHING = List.of(
            "Moments on a line, by seconds and billionths; a calendar with spans that lie in it, and what is free between;"
                    + " wishes, of which as many as can be are chosen, and the rooms that they need.",
            "The constructor and the methods follow, a promise each: the signature, then what it does.");

    private static final Map<Integer, List<String>> document = new TreeMap<>();
    private static final Map<Integer, List<String>> told = new TreeMap<>();

    private Sentences() {
    }

    static void read() throws IOException {
        if (!Files.exists(DOCUMENT)) {
            System.out.println("there is no " + DOCUMENT + ": the sentences are not looked up");
            return;
        }
        int section = DESCRIPTION;
        boolean isCode = false;
        for (String line : Files.readString(DOCUMENT, StandardCharsets.UTF_8).split("\n")) {
            if (line.startsWith("## Not promised")) {
                return;
            }
            if (line.startsWith("## Promise ")) {
                section = Integer.parseInt(line.substring(11, line.indexOf(':')));
            }
            if (line.startsWith("```")) {
                isCode = !isCode;
            }
            boolean isSignature = line.startsWith("`") && line.endsWith("`");
            boolean isHeading = line.startsWith("#") || line.startsWith("==");
            if (!isCode && !isSignature && !isHeading && !line.isBlank()) {
                document.computeIfAbsent(section, k -> new ArrayList<>()).add(line.replace("`", "").strip());
            }
        }
    }

    /** The test looks at something, and all that it looks at is as is due. */
    static void holds(int promise, String sentence, Runnable test) {
        Checks.under("promise " + promise + ", '" + sentence + "': ");
        if (!document.isEmpty()) {
            List<String> lines = document.getOrDefault(promise, List.of());
            Checks.same("is in the document:", true, lines.stream().anyMatch(line -> line.contains(sentence)));
        }
        told.computeIfAbsent(promise, k -> new ArrayList<>()).add(sentence);
        int before = Checks.count();
        try {
            test.run();
        } catch (RuntimeException e) {
            Checks.same("the test itself", "an end", e);
        }
        Checks.same("looks at something:", true, Checks.count() > before);
        Checks.under("");
    }

    /** Each word of what the document promises has a test; of a plain argument's line none is needed. */
    static void untold() {
        if (document.isEmpty()) {
            return;
        }
        for (int promise = DESCRIPTION; promise <= LAST_PROMISE; promise++) {
            List<String> quotes = new ArrayList<>(told.getOrDefault(promise, List.of()));
            quotes.addAll(PROMISE_NOTHING);
            quotes.sort((one, other) -> other.length() - one.length());
            for (String line : document.getOrDefault(promise, List.of())) {
                Matcher plain = PLAIN_ARGUMENT.matcher(line);
                Checks.same("promise " + promise + ", untold in '" + line + "': ", "",
                        plain.matches() ? "" : rest(line, quotes));
            }
        }
        Checks.same("how many parts the document has:", LAST_PROMISE + 1, document.size());
    }

    private static String rest(String line, List<String> quotes) {
        String rest = line;
        for (String quote : quotes) {
            rest = rest.replace(quote, "");
        }
        return rest.replaceAll("\\b(or|and)\\b|[^A-Za-z0-9]", "");
    }
}
