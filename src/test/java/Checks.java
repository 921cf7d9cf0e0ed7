/** What the project's tests share: answers compared, texts fed letter by letter. */
final class Checks {
    static final int BAD = -1, STATE = -2, FULL = -3, NONE = -4;
    static final int LEAST = Integer.MIN_VALUE, MOST = Integer.MAX_VALUE;

    private static int made = 0;
    private static int wrong = 0;
    private static String where = "";

    private Checks() {
    }

    /** The words of the document that the answers from here on hold to; 0 stands for its Terms. */
    static void sentence(int promise, String words) {
        where = (promise == 0 ? "Terms" : "promise " + promise) + " '" + words + "': ";
    }

    static void due(String call, long got, long want) {
        made++;
        if (got != want) {
            wrong++;
            System.out.println(where + call + " answered " + got + ", due is " + want);
        }
    }

    static void alike(String call, String got, String want) {
        made++;
        if (!got.equals(want)) {
            wrong++;
            System.out.println(where + call + ": " + got + ", due is " + want);
        }
    }

    static void feed(SmokeSeats x, String text) {
        for (int k = 0; k < text.length(); k++) {
            x.feed(text.charAt(k));
        }
    }

    static int tell(SmokeSeats x, String text) {
        feed(x, text);
        return x.text();
    }

    static SmokeSeats told(String text) {
        SmokeSeats x = new SmokeSeats();
        if (tell(x, text) < 0) {
            due("a text of the test's own: " + text, x.fault(), 0);
        }
        return x;
    }

    static void finish() {
        System.out.println(made + " answers, " + wrong + " not as due");
        if (wrong != 0 || made == 0) {
            System.exit(1);
        }
    }
}
