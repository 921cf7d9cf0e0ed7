import java.io.IOException;
import java.nio.file.Files;
import java.nio.file.Path;
import java.util.ArrayList;
import java.util.List;
import java.util.Map;
import java.util.TreeMap;
import java.util.regex.Matcher;
import java.util.regex.Pattern;
import java.util.stream.Stream;

/**
 * The words that the tests of edges hold to: each stands in the document, in the promise that is named beside it, and
 * no word of a promise or of the Terms is without a test that names it.
 */
public final class SentencesTest {
    private static final Path DOCUMENT = Path.of("../shared/DOC.md");
    private static final Path TESTS = Path.of("src/test/java");
    private static final int TERMS = 0, PROMISES = 42;
    private static final Pattern QUOTE = Pattern.compile(
        "\\b(?:sentence|change|ask)\\(\\s*(\\d+),\\s*(\"(?:[^\"\\\\]|\\\\.)*\"(?:\\s*\\+\\s*\"(?:[^\"\\\\]|\\\\.)*\")*)");

    public static void main(String[] args) throws IOException {
        if (!Files.exists(DOCUMENT)) {
            System.out.println("no document here: nothing is compared");
            return;
        }
        Map<Integer, String> document = document(Files.readString(DOCUMENT));
        Checks.due("promises of the document", document.size() - 1, PROMISES);
        Map<Integer, boolean[]> held = new TreeMap<>();
        document.forEach((number, text) -> held.put(number, new boolean[text.length()]));
        for (Path test : tests()) {
            Matcher quote = QUOTE.matcher(Files.readString(test));
            while (quote.find()) {
                int number = Integer.parseInt(quote.group(1));
                String words = quote.group(2).replaceAll("\"\\s*\\+\\s*\"", "");
                mark(test, number, words.substring(1, words.length() - 1), document, held);
            }
        }
        document.forEach((number, text) -> Checks.alike("words of promise " + number + " without a test",
            rest(text, held.get(number)), ""));
        Checks.finish();
    }

    private static List<Path> tests() throws IOException {
        try (Stream<Path> all = Files.list(TESTS)) {
            return all.filter(p -> p.toString().endsWith("Test.java")).sorted().toList();
        }
    }

    /** The text of each promise by its number, and of the Terms; blanks and marks of the page taken out. */
    private static Map<Integer, String> document(String page) {
        Map<Integer, String> all = new TreeMap<>();
        for (String section : page.split("(?m)^## ")) {
            Matcher head = Pattern.compile("(?:Promise (\\d+): .*|Terms)\n").matcher(section);
            if (head.lookingAt()) {
                int number = head.group(1) == null ? TERMS : Integer.parseInt(head.group(1));
                String text = section.substring(head.end()).replaceAll("(?m)^Ahead of the calls .*$", "")
                    .replaceAll("```(text)?", "").replaceFirst("^\\s*`[^`]*`:", "");
                all.put(number, text.replaceAll("\\s+", " "));
            }
        }
        return all;
    }

    private static void mark(Path test, int number, String words, Map<Integer, String> document,
            Map<Integer, boolean[]> held) {
        String text = document.getOrDefault(number, "");
        int at = text.indexOf(words);
        Checks.due(test.getFileName() + ": '" + words + "' stands in promise " + number, at >= 0 ? 1 : 0, 1);
        while (at >= 0) {
            for (int k = at; k < at + words.length(); k++) {
                held.get(number)[k] = true;
            }
            at = text.indexOf(words, at + 1);
        }
    }

    /** What no test names, signs aside. */
    private static String rest(String text, boolean[] held) {
        List<String> parts = new ArrayList<>();
        StringBuilder part = new StringBuilder();
        for (int k = 0; k <= text.length(); k++) {
            if (k < text.length() && !held[k]) {
                part.append(text.charAt(k));
            } else {
                if (part.toString().matches(".*[A-Za-z0-9].*")) {
                    parts.add(part.toString().trim());
                }
                part.setLength(0);
            }
        }
        return String.join(" .. ", parts);
    }
}
