/** What the project's tests share: answers compared, texts fed letter by letter. */
final class Checks {
    private static int made = 0;
    private static int wrong = 0;

    private Checks() {
    }

    static void due(String call, long got, long want) {
        made++;
        if (got != want) {
            wrong++;
            System.out.println(call + " answered " + got + ", due is " + want);
        }
    }

    static int tell(SmokeSeats x, String text) {
        for (int k = 0; k < text.length(); k++) {
            x.feed(text.charAt(k));
        }
        return x.text();
    }

    static SmokeSeats told(String text) {
        SmokeSeats x = new SmokeSeats();
        if (tell(x, text) < 0) {
            due("a text of the test's own: " + text, x.fault(), 0);
        }
        return x;
    }

    static void finish() {
        System.out.println(made + " answers, " + wrong + " not as due");
        if (wrong != 0 || made == 0) {
            System.exit(1);
        }
    }
}
