import java.util.ArrayList;
import java.util.List;
import java.util.function.Consumer;
import java.util.function.Supplier;

/**
 * Whether a call has changed anything: its object and a twin on which it was not made are asked for all that they
 * hold. Asking changes them, and 512 calls are not enough for all of it, so each part has objects of its own.
 */
final class Probe {
    private static final String[] PARTS = {"the room", "what is seen", "the room of image 0", "what is seen in image 0",
        "the room of image 1", "what is seen in image 1", "the sheets", "the tape"};

    private final Supplier<SmokeSeats> maker;
    private final List<String> before = new ArrayList<>();

    Probe(Supplier<SmokeSeats> maker) {
        this.maker = maker;
        for (int part = 0; part < PARTS.length; part++) {
            before.add(asked(maker.get(), part));
        }
    }

    void unchangedBy(String name, Consumer<SmokeSeats> call) {
        for (int part = 0; part < PARTS.length; part++) {
            SmokeSeats x = maker.get();
            call.accept(x);
            Checks.alike(name + " leaves " + PARTS[part] + " as it was", asked(x, part), before.get(part));
        }
    }

    private static String asked(SmokeSeats x, int part) {
        StringBuilder all = new StringBuilder();
        if (part >= 2 && part <= 5) {
            put(all, x.back((part - 2) / 2));
        }
        switch (part) {
            case 0: case 2: case 4: askRoom(x, all); break;
            case 1: case 3: case 5: askSeen(x, all); break;
            case 6: askSheets(x, all); break;
            default: askTape(x, all); break;
        }
        return all.toString();
    }

    private static void put(StringBuilder all, long answer) {
        all.append(answer).append(' ');
    }

    private static void askRoom(SmokeSeats x, StringBuilder all) {
        put(all, x.fault());
        put(all, x.torn());
        for (int what = 0; what <= 5; what++) {
            put(all, x.rule(what));
            put(all, x.count(what));
            put(all, x.air(what));
        }
        int lives = x.rule(0);
        int sitters = x.rule(1);
        for (int l = 0; l <= lives; l++) {
            for (int what = 0; what <= 6; what++) {
                put(all, x.life(l, what));
            }
            for (int c = 0; c < 20; c++) {
                put(all, x.in(Evenings.name(c), l));
            }
        }
        for (int i = 0; i <= sitters; i++) {
            for (int what = 0; what <= 3; what++) {
                put(all, x.sitter(i, what));
            }
            for (int l = 0; l < lives; l++) {
                put(all, x.has(i, l));
            }
        }
        for (int y = 0; y <= 3; y++) {
            put(all, x.price(y, 0));
        }
    }

    private static void askSeen(SmokeSeats x, StringBuilder all) {
        int lives = x.rule(0);
        for (int n = x.count(0); n >= 0; n--) {
            put(all, x.forget(n));
            for (int l = 0; l < lives; l++) {
                put(all, x.kinds(l));
                put(all, x.froms(l, 0));
                put(all, x.froms(l, 1));
            }
        }
    }

    /** The SHEETS of the tests hold 0 to 3 alone: any CELL of them names a SITTER and a CELL of the room. */
    private static void askSheets(SmokeSeats x, StringBuilder all) {
        int sitters = x.rule(1);
        for (int k = 0; k <= 3; k++) {
            for (int lane = 0; lane <= 2; lane++) {
                int came = x.read(k, lane, 0, 20);
                put(all, came);
                put(all, x.torn());
                for (int f = 0; came > 0 && f <= 2 * came; f++) {
                    put(all, x.read(k, lane, f, 1));
                    for (int i = 0; i < sitters; i++) {
                        put(all, x.sitter(i, 0));
                        x.seat(i, 0, 43);
                    }
                }
            }
        }
    }

    private static void askTape(SmokeSeats x, StringBuilder all) {
        put(all, x.count(2));
        put(all, x.text());
        askRoom(x, all);
    }
}
