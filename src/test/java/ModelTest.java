import java.lang.reflect.Method;
import java.util.ArrayList;
import java.util.Arrays;
import java.util.List;
import java.util.Random;

/** Random runs of calls by fixed seeds: the class and the model are to answer alike. */
public final class ModelTest {
    private static final int RUNS = 1000;
    private static final int CALLS = 512;

    /** A call's name and a letter for each of its numbers: which numbers make sense there. */
    private static final String[] CALLS_BY_KIND = {
        "end t", "text", "fault", "rule 6", "life l7", "sitter i4", "has il", "in cl", "air 6",
        "alter lax", "seat isx", "blow 65", "price 4z", "open", "steps 3", "steps 5", "steps n", "runs m4", "ahead ilm", "wet il", "over",
        "best ilm", "cheap ilv", "clean im2", "need ilv", "swap m2", "fan im2", "luck zie2", "mean zie2",
        "see ilnv", "see ilgv", "forget 7", "kinds l", "froms l2", "ask l2", "drift rm2", "keep 2", "back 2",
        "sheet 43q", "lay 4qx", "read 43qg", "torn", "count 6"};

    private final Random random;
    private final SmokeSeats ours = new SmokeSeats();
    private final Model model = new Model();
    private final List<String> calls = new ArrayList<>();
    private final int run;
    private boolean isAlike = true;

    private ModelTest(int run) {
        this.run = run;
        this.random = new Random(run);
    }

    public static void main(String[] args) throws ReflectiveOperationException {
        for (int run = 0; run < RUNS; run++) {
            new ModelTest(run).go();
        }
        Checks.finish();
    }

    private void go() throws ReflectiveOperationException {
        say(randomText());
        boolean isLate = random.nextInt(8) == 0;
        for (int k = 0; isLate && k < 33; k++) {
            compare("steps", 30);
        }
        while (calls.size() < CALLS && isAlike) {
            int dice = random.nextInt(200);
            boolean isEmpty = model.rule(0) == 0 || model.rule(1) == 0;
            if (dice < 2 || isEmpty && dice < 40) {
                compare("end", 0);
                say(randomText());
            } else if (dice < 6) {
                laySheet();
            } else if (dice < 10) {
                feedAndEnd();
            } else if (dice < 30) {
                stir();
            } else if (dice < 40) {
                seeWhatWillBe();
            } else {
                String[] call = CALLS_BY_KIND[random.nextInt(CALLS_BY_KIND.length)].split(" ");
                // a text that is asked for between others empties the room: seldom
                if (!call[0].equals("text") || random.nextInt(10) == 0) {
                    compare(call[0], call.length == 1 ? new int[0] : numbers(call[1]));
                }
            }
        }
    }

    /** More of a life is told, and near a sitter: else most evenings would be over soon. */
    private void stir() throws ReflectiveOperationException {
        int l = number('l');
        int i = number('i');
        compare("alter", l, 3, random.nextInt(100));
        compare("alter", l, 2, 1 + random.nextInt(9));
        compare("seat", i, 1, random.nextInt(10));
        if (random.nextBoolean()) {
            compare("alter", l, 1, near());
            compare("seat", i, 0, near());
        }
    }

    private void feedAndEnd() throws ReflectiveOperationException {
        for (int k = random.nextInt(6); k >= 0; k--) {
            compare("feed", random.nextInt(131) - 1);
        }
        compare("end", random.nextInt(model.count(2) + 2));
    }

    private int[] numbers(String letters) {
        int[] all = new int[letters.length()];
        for (int k = 0; k < all.length; k++) {
            all[k] = random.nextInt(40) == 0 ? odd() : number(letters.charAt(k));
        }
        return all;
    }

    private int odd() {
        int[] odd = {-1, Integer.MIN_VALUE, Integer.MAX_VALUE, random.nextInt(), random.nextInt(1100) - 20};
        return odd[random.nextInt(odd.length)];
    }

    private int number(char letter) {
        switch (letter) {
            case 'l': return random.nextInt(random.nextInt(20) == 0 ? 5 : Math.max(1, model.rule(0)));
            case 'i': return random.nextInt(random.nextInt(20) == 0 ? 6 : Math.max(1, model.rule(1)));
            case 'c': return random.nextInt(10) == 0 ? random.nextInt(56) : cell();
            case 'a': return random.nextInt(10) == 0 ? 4 : random.nextInt(4);
            case 's': return random.nextInt(10) == 0 ? 2 : random.nextInt(2);
            case 'x': return random.nextBoolean() ? cell() : random.nextInt(14) - 1;
            case 'n': return random.nextInt(random.nextBoolean() ? 5 : 32);
            case 'g': return random.nextInt(random.nextBoolean() ? 5 : 22);
            case 'm': return random.nextInt(random.nextBoolean() ? 9 : 62);
            case 'v': return 1 + random.nextInt(random.nextBoolean() ? 5 : 40);
            case 'e': return random.nextInt(random.nextInt(10) == 0 ? 10 : 6);
            case 'z': return random.nextInt(12);
            case 'q': return random.nextInt(random.nextBoolean() ? 8 : 44) - 1;
            case 'r': return random.nextInt();
            case 't': return random.nextInt(170);
            default: return random.nextInt(letter - '0' + (random.nextInt(10) == 0 ? 1 : 0));
        }
    }

    /** One of six cells by the middle of the room. */
    private int near() {
        return 10 * (1 + random.nextInt(3)) + 1 + random.nextInt(2);
    }

    private int cell() {
        return random.nextInt(3) == 0 ? near() : 10 * random.nextInt(5) + random.nextInt(4);
    }

    /** True words, so that kinds, froms and ask have cells left to tell apart. */
    private void seeWhatWillBe() throws ReflectiveOperationException {
        int i = number('i');
        int l = number('l');
        int n = random.nextInt(31);
        int much = model.ahead(i, l, n);
        compare("see", i, l, n, much);
        compare("kinds", l);
        compare("froms", l, 0);
        compare("froms", l, 1);
        compare("ask", l, 0);
        compare("ask", l, 1);
        if (random.nextInt(3) == 0) {
            compare("forget", random.nextInt(model.count(0) + 1));
        }
    }

    private void laySheet() throws ReflectiveOperationException {
        int k = random.nextInt(4);
        int lane = random.nextInt(3);
        int n = random.nextInt(12);
        compare("sheet", k, lane, n);
        for (int c = 0; c + 1 < n; c += 2) {
            int high = random.nextInt(4) == 0 ? 1 << random.nextInt(31) : 0;
            compare("lay", k, c, number('i') + (random.nextInt(8) == 0 ? high : 0));
            compare("lay", k, c + 1, cell() + (random.nextInt(8) == 0 ? high : 0));
        }
        compare("read", k, random.nextInt(8) == 0 ? random.nextInt(3) : lane, random.nextInt(3), random.nextInt(8));
        compare("torn");
    }

    private String randomText() {
        StringBuilder text = new StringBuilder();
        String[] names = {"plain", "heavy", "thin", "happy"};
        for (int l = random.nextInt(12) == 0 ? 0 : 1 + random.nextInt(3); l > 0; l--) {
            text.append(names[random.nextInt(4)]).append(' ').append(cell()).append(' ').append(1 + random.nextInt(9))
                .append(' ').append(random.nextInt(random.nextBoolean() ? 20 : 100)).append(';');
        }
        for (int i = random.nextInt(12) == 0 ? 0 : 1 + random.nextInt(4); i > 0; i--) {
            text.append("sitter ").append(cell()).append(' ').append(random.nextInt(10)).append(';');
        }
        for (int k = 0; k < 6; k++) {
            text.append(random.nextInt(4) == 0 ? "" : "air " + k + " " + random.nextInt(5) + ";");
        }
        for (int y = 0; y < 4; y++) {
            text.append(random.nextInt(3) == 0 ? "price " + y + " " + random.nextInt(10) + ";" : "");
        }
        return random.nextInt(4) == 0 ? spoilt(text) : text.toString();
    }

    private String spoilt(StringBuilder text) {
        for (int k = 1 + random.nextInt(2); k > 0 && text.length() > 0; k--) {
            int at = random.nextInt(text.length());
            String letters = "0123456789; plainheavysitterair\n!A{";
            char letter = letters.charAt(random.nextInt(letters.length()));
            int how = random.nextInt(5);
            if (how == 0) {
                text.deleteCharAt(at);
            } else if (how == 1) {
                text.setCharAt(at, letter);
            } else if (how == 2) {
                text.insert(at, letter);
            } else if (how == 3) {
                text.setLength(at);
            } else {
                text.append("thin 1 2 3;sitter 3 3;price 2 2;".substring(random.nextInt(3) * 11));
            }
        }
        return text.toString();
    }

    private void say(String text) throws ReflectiveOperationException {
        for (int k = 0; k < text.length() && isAlike; k++) {
            compare("feed", text.charAt(k));
        }
        compare("text");
        compare("fault");
    }

    private void compare(String name, int... numbers) throws ReflectiveOperationException {
        if (!isAlike || calls.size() >= CALLS) {
            return;
        }
        calls.add(name + Arrays.toString(numbers));
        long got = answer(ours, name, numbers);
        long want = answer(model, name, numbers);
        isAlike = got == want;
        Checks.due(isAlike ? name : "run " + run + ": " + calls, got, want);
    }

    private static long answer(Object of, String name, int[] numbers) throws ReflectiveOperationException {
        Class<?>[] types = new Class<?>[numbers.length];
        Object[] values = new Object[numbers.length];
        for (int k = 0; k < numbers.length; k++) {
            types[k] = int.class;
            values[k] = numbers[k];
        }
        Method method = of.getClass().getMethod(name, types);
        return ((Number) method.invoke(of, values)).longValue();
    }
}
