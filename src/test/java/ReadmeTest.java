import java.io.IOException;
import java.lang.reflect.Method;
import java.nio.file.Files;
import java.nio.file.Path;
import java.util.Map;
import java.util.TreeMap;
import java.util.regex.Matcher;
import java.util.regex.Pattern;

/** The evening that README.md shows: each of its calls answers what stands behind it; no call of the face is left out. */
public final class ReadmeTest {
    private static final Path README = Path.of("README.md");
    private static final Path TESTS = Path.of("src/test/java");
    private static final Pattern FED = Pattern.compile(" *for \\(char c : \"(.*)\"\\.toCharArray\\(\\)\\) \\{");
    private static final Pattern ASKED = Pattern.compile("cafe\\.(\\w+)\\(([-0-9, ]*)\\); +// (-?\\d+|[A-Z]+)\\b.*");
    private static final Map<String, Integer> WORDS =
        Map.of("BAD", Checks.BAD, "STATE", Checks.STATE, "FULL", Checks.FULL, "NONE", Checks.NONE);

    public static void main(String[] args) throws IOException, ReflectiveOperationException {
        String page = Files.readString(README);
        evening(page.substring(page.indexOf("```java"), page.lastIndexOf("```")));
        calls(page);
        tests(page);
        Checks.finish();
    }

    private static void evening(String example) throws ReflectiveOperationException {
        Map<String, Method> face = face();
        SmokeSeats cafe = new SmokeSeats();
        int asked = 0;
        for (String line : example.split("\n")) {
            Matcher fed = FED.matcher(line);
            Matcher call = ASKED.matcher(line);
            if (fed.matches()) {
                Checks.feed(cafe, fed.group(1));
            } else if (call.matches()) {
                asked++;
                Checks.due("README.md: " + line, answer(cafe, face.get(call.group(1)), call.group(2)), due(call.group(3)));
            } else {
                boolean isPlain = line.isEmpty() || line.matches("```java|SmokeSeats cafe = new SmokeSeats\\(\\);|//.*|}"
                    + "| {4}cafe\\.feed\\(c\\);");
                Checks.due("README.md has a line that this test can read: " + line, isPlain ? 1 : 0, 1);
            }
        }
        Checks.due("README.md asks something", asked > 0 ? 1 : 0, 1);
    }

    private static Map<String, Method> face() {
        Map<String, Method> all = new TreeMap<>();
        for (Method m : SmokeSeats.class.getMethods()) {
            if (m.getDeclaringClass() == SmokeSeats.class) {
                all.put(m.getName(), m);
            }
        }
        return all;
    }

    private static long answer(SmokeSeats cafe, Method call, String numbers) throws ReflectiveOperationException {
        String[] parts = numbers.isBlank() ? new String[0] : numbers.split(", ");
        Object[] values = new Object[parts.length];
        for (int k = 0; k < parts.length; k++) {
            values[k] = Integer.valueOf(parts[k]);
        }
        return ((Number) call.invoke(cafe, values)).longValue();
    }

    private static long due(String word) {
        return WORDS.containsKey(word) ? WORDS.get(word) : Long.parseLong(word);
    }

    private static void calls(String page) {
        for (String name : face().keySet()) {
            Checks.due("README.md names `" + name + "`", page.contains("`" + name + "`") ? 1 : 0, 1);
        }
    }

    /** How the tests are run, and what each of them holds to. */
    private static void tests(String page) throws IOException {
        Checks.due("README.md names .ci/run", page.contains("\n    .ci/run\n") ? 1 : 0, 1);
        try (var all = Files.list(TESTS)) {
            for (Path test : all.filter(p -> p.toString().endsWith(".java")).sorted().toList()) {
                String name = test.getFileName().toString().replace(".java", "");
                Checks.due("README.md names `" + name + "`", page.contains("`" + name + "`") ? 1 : 0, 1);
            }
        }
    }
}
