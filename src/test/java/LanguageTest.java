import java.io.IOException;
import java.lang.reflect.Constructor;
import java.lang.reflect.Field;
import java.lang.reflect.Method;
import java.lang.reflect.Modifier;
import java.nio.file.Files;
import java.nio.file.Path;
import java.util.Set;
import java.util.TreeSet;
import java.util.regex.Matcher;
import java.util.regex.Pattern;

/** The face of the document, and the rules of LANGUAGE.md that can be seen from the source alone. */
public final class LanguageTest {
    private static final String FACE = "ahead(3) air(1) alter(3) ask(2) back(1) best(3) blow(2) cheap(3) clean(3) "
        + "count(1) drift(3) end(1) fan(3) fault(0) feed(1) forget(1) froms(2) has(2) in(2) keep(1) kinds(1) lay(3) "
        + "life(2) luck(4) mean(4) need(3) open(0) over(0) price(2) read(4) rule(1) runs(2) seat(3) see(4) sheet(3) "
        + "sitter(2) steps(1) swap(2) text(0) torn(0) wet(2)";
    private static final int MOST_METHOD_LINES = 60;
    private static final int MOST_PARAMETERS = 7;
    private static final int MOST_CLASSES = 12;
    private static final int MOST_FIELDS = 20;

    public static void main(String[] args) throws IOException {
        face();
        members(SmokeSeats.class);
        due("classes", SmokeSeats.class.getDeclaredClasses().length < MOST_CLASSES);
        for (Class<?> inside : SmokeSeats.class.getDeclaredClasses()) {
            due(inside.getName() + " is static", Modifier.isStatic(inside.getModifiers()));
            due(inside.getName() + " is not public", !Modifier.isPublic(inside.getModifiers()));
            members(inside);
        }
        String source = Files.readString(Path.of("src/main/java/SmokeSeats.java"));
        words(source);
        methodLengths(source);
        Checks.finish();
    }

    private static void due(String what, boolean holds) {
        Checks.due(what, holds ? 1 : 0, 1);
    }

    private static void face() {
        due("the class is public and final", SmokeSeats.class.getModifiers() == (Modifier.PUBLIC | Modifier.FINAL));
        Set<String> found = new TreeSet<>();
        for (Method m : SmokeSeats.class.getDeclaredMethods()) {
            if (Modifier.isPrivate(m.getModifiers())) {
                continue;
            }
            due(m + " is public alone", m.getModifiers() == Modifier.PUBLIC);
            boolean isLong = m.getName().equals("luck") || m.getName().equals("mean");
            due(m + " answers as told", m.getReturnType() == (isLong ? long.class : int.class));
            for (Class<?> type : m.getParameterTypes()) {
                due(m + " takes ints", type == int.class);
            }
            found.add(m.getName() + "(" + m.getParameterCount() + ")");
        }
        due("the face: " + found, String.join(" ", found).equals(FACE));
        Constructor<?>[] made = SmokeSeats.class.getDeclaredConstructors();
        due("one constructor", made.length == 1 && made[0].getParameterCount() == 0);
        due("the constructor is public", Modifier.isPublic(made[0].getModifiers()));
        Set<String> constants = new TreeSet<>();
        for (Field f : SmokeSeats.class.getDeclaredFields()) {
            if (!Modifier.isPrivate(f.getModifiers())) {
                constants.add(f.getName());
            }
        }
        due("the constants: " + constants, String.join(" ", constants).equals("BAD FULL NONE STATE"));
    }

    private static void members(Class<?> of) {
        Set<String> open = new TreeSet<>();
        for (Method m : SmokeSeats.class.getMethods()) {
            open.add(m.getName());
        }
        for (Method m : of.getDeclaredMethods()) {
            due(m + " has few parameters", m.getParameterCount() <= MOST_PARAMETERS);
            due(m + " bears no public name", Modifier.isPublic(m.getModifiers()) || !open.contains(m.getName()));
        }
        int fields = 0;
        for (Field f : of.getDeclaredFields()) {
            boolean isStatic = Modifier.isStatic(f.getModifiers());
            fields += isStatic ? 0 : 1;
            due(f + " is final, if static", !isStatic || Modifier.isFinal(f.getModifiers()));
        }
        due(of.getName() + " has few fields", fields <= MOST_FIELDS);
    }

    private static void words(String source) {
        String[] no = {"\\bthrow", "\\btry\\b", "\\bcatch\\b", "\\bsynchronized\\b", "\\bassert\\b", "->", "::",
            "Exact\\b", "\\bpackage\\b", "\\bprotected\\b", "\\bsetOut\\b", "System\\.(?!arraycopy)", "\\bstatic \\{"};
        for (String word : no) {
            due("no " + word, !Pattern.compile(word).matcher(source).find());
        }
        Matcher imports = Pattern.compile("^import (.*);", Pattern.MULTILINE).matcher(source);
        while (imports.find()) {
            due("import " + imports.group(1), imports.group(1).matches("java\\.util\\.(Arrays|ArrayList|List)"));
        }
        for (int k = 0; k < source.length(); k++) {
            if (source.charAt(k) > 126) {
                due("plain signs alone, but not at " + k, false);
            }
        }
    }

    private static void methodLengths(String source) {
        String[] lines = source.split("\n");
        Pattern head = Pattern.compile("^( +)[A-Za-z].*\\) \\{$");
        for (int k = 0; k < lines.length; k++) {
            Matcher m = head.matcher(lines[k]);
            boolean isMethod = m.matches() && !lines[k].trim().matches("(if|for|while|switch|else|do)\\b.*");
            int last = k;
            while (isMethod && last < lines.length && !lines[last].equals(m.group(1) + "}")) {
                last++;
            }
            due("a short method: " + lines[k].trim(), last - k < MOST_METHOD_LINES);
        }
    }
}
