import java.util.List;
import java.util.function.ToLongFunction;

/** The edges of promises 1 to 11: a new object, THE TAPE and its text, what is told. */
public final class TextEdgesTest {
    private static final int BAD = Checks.BAD, STATE = Checks.STATE, FULL = Checks.FULL, NONE = Checks.NONE;

    /** All the lines that there can be, 17, in 157 bytes. */
    private static final String ALL_LINES = "plain0 1 0;heavy43 9 99;happy12 5 50;"
        + "sitter0 0;sitter43 9;sitter3 1;sitter40 2;air0 4;air1 3;air2 2;air3 1;air4 0;air5 4;"
        + "price0 9;price1 0;price2 5;price3 1;";
    private static final String[] NAMES = {"plain", "heavy", "thin", "happy", "sitter", "air", "price"};
    /** The greatest number for each line, where it is no CELL. */
    private static final int[][] GREATEST = {{43, 9, 99}, {43, 9, 99}, {43, 9, 99}, {43, 9, 99}, {43, 9}, {5, 4}, {3, 9}};

    public static void main(String[] args) {
        noLivesNobody();
        sheetsOfNothing();
        zeroAtFirst();
        bytesComeBehind();
        tapeIsFull();
        tapeKeepsItsFirst();
        textOfNothing();
        textOfAllLines();
        placesOfFaults();
        textIsRefused();
        textIsTaken();
        latestFault();
        blanks();
        names();
        numbers();
        lines();
        boundsOfNumbers();
        cellsOfLines();
        toldAlready();
        tooMany();
        firstMet();
        askedOfNone();
        askedOfAll();
        constants();
        Checks.finish();
    }

    private static void due(String call, long got, long want) {
        Checks.due(call, got, want);
    }

    private static String blank(int n) {
        return " ".repeat(n);
    }

    /** What text() answers and which FAULT it finds, on an object that was told something. */
    private static void faulty(String text, int place, int fault) {
        SmokeSeats x = Evenings.of(2, 3);
        due("text of '" + text + "'", Checks.tell(x, text), -10 - place);
        due("fault of '" + text + "'", x.fault(), fault);
        due("LIVES behind '" + text + "'", x.rule(0), 2);
        due("bytes behind '" + text + "'", x.count(2), 0);
    }

    private static void taken(String text, int lines) {
        SmokeSeats x = Evenings.of(2, 3);
        due("text of '" + text + "'", Checks.tell(x, text), lines);
        due("fault of '" + text + "'", x.fault(), 0);
        due("bytes behind '" + text + "'", x.count(2), 0);
    }

    // ---- promise 1

    private static void noLivesNobody() {
        Checks.sentence(1, "No LIVES, nobody");
        SmokeSeats x = new SmokeSeats();
        due("LIVES", x.rule(0), 0);
        due("SITTERS", x.rule(1), 0);
        due("steps(30)", x.steps(30), 0);
        due("STEP", x.rule(2), 30);
        for (int what = 0; what <= 2; what++) {
            due("runs(60, " + what + ")", x.runs(60, what), 0);
        }
        due("runs(60, 3)", x.runs(60, 3), NONE);
        due("over()", x.over(), 0);
        due("swap(60, 0)", x.swap(60, 0), NONE);
        due("swap(60, 1)", x.swap(60, 1), NONE);
        due("drift(1, 1, 0)", x.drift(1, 1, 0), STATE);
        due("open()", x.open(), 0);
        due("forget(0)", x.forget(0), 0);
        due("keep(1)", x.keep(1), 0);
        due("back(1)", x.back(1), 30);
    }

    private static void sheetsOfNothing() {
        Checks.sentence(1, "SHEETS of nothing");
        SmokeSeats x = new SmokeSeats();
        due("CELLS of SHEET 0", x.count(3), NONE);
        for (int k = 0; k <= 3; k++) {
            due("lay(" + k + ", 0, 0)", x.lay(k, 0, 0), -11);
            for (int lane = 0; lane <= 2; lane++) {
                due("read(" + k + ", " + lane + ", 0, 1)", x.read(k, lane, 0, 1), 0);
                due("torn()", x.torn(), 1);
            }
        }
        Checks.sentence(0, "or nothing (at first)");
        due("lay(3, 40, 0)", x.lay(3, 40, 0), -11);
    }

    private static void zeroAtFirst() {
        SmokeSeats x = new SmokeSeats();
        Checks.sentence(0, "AIRS 0 to 5: a WAY each: 0 still (at first)");
        for (int k = 0; k <= 5; k++) {
            due("air(" + k + ")", x.air(k), 0);
        }
        Checks.sentence(0, "PRICES of rows y (0 to 9; 0 at first)");
        for (int y = 0; y <= 3; y++) {
            due("price(" + y + ", 9)", x.price(y, 9), 0);
        }
        x = Evenings.of(3, 4);
        Checks.sentence(0, "STEP (0 at first)");
        due("STEP", x.rule(2), 0);
        Checks.sentence(0, "who HAS so much of each LIFE (0 at first)");
        for (int k = 0; k < 12; k++) {
            due("has(" + k / 3 + ", " + k % 3 + ")", x.has(k / 3, k % 3), 0);
        }
        Checks.sentence(0, "IN each CELL there is so much of each LIFE (0 at first)");
        for (int k = 0; k < 60; k++) {
            int cell = Evenings.name(k / 3);
            due("in(" + cell + ", " + k % 3 + ")", x.in(cell, k % 3), 0);
        }
        Checks.sentence(0, "so much of each is LOST (0 at first)");
        for (int l = 0; l < 3; l++) {
            due("life(" + l + ", 5)", x.life(l, 5), 0);
        }
    }

    // ---- promise 2

    private static void bytesComeBehind() {
        Checks.sentence(2, "A byte (0 to 127) comes behind THE TAPE");
        for (int c = 0; c <= 127; c++) {
            SmokeSeats x = new SmokeSeats();
            due("feed(" + c + ")", x.feed(c), 1);
            // the byte itself is there: behind it the text is of another kind
            int fault = c >= '0' && c <= '9' || c >= 'a' && c <= 'z' || c == ';' ? 2 : 1;
            due("text() of " + c, x.text(), c == ' ' ? 0 : -10);
            due("fault() of " + c, x.fault(), c == ' ' ? 0 : fault);
        }
        SmokeSeats x = new SmokeSeats();
        // none is cut to its lowest bits
        for (int c : new int[] {128, 256 + 'a', -256 + 'a', -1, Checks.LEAST, Checks.MOST}) {
            due("feed(" + c + ")", x.feed(c), BAD);
        }
        due("bytes", x.count(2), 0);
        Checks.sentence(2, "how many it has");
        for (int k = 1; k <= 160; k++) {
            due("feed of the byte " + k, x.feed(' '), k);
            due("bytes", x.count(2), k);
        }
    }

    private static void tapeIsFull() {
        Checks.sentence(2, "BAD; FULL: more than 160");
        SmokeSeats x = new SmokeSeats();
        Checks.feed(x, blank(152) + "air 5 3");
        due("feed of the 160th", x.feed(';'), 160);
        due("feed of the 161st", x.feed(' '), FULL);
        due("feed of the 161st, 0", x.feed(0), FULL);
        due("feed of the 161st, 127", x.feed(127), FULL);
        due("feed(128) at 160, BAD is the first that fits", x.feed(128), BAD);
        due("feed(-1) at 160, BAD is the first that fits", x.feed(-1), BAD);
        due("bytes", x.count(2), 160);
        due("the text of 160 bytes", x.text(), 1);
        due("air(5)", x.air(5), 3);
        due("feed of the first behind it", x.feed(' '), 1);
        Checks.feed(x, blank(159));
        due("feed of the 161st again", x.feed(' '), FULL);
        due("end(159) at 160", x.end(159), 160);
        due("feed behind end(159)", x.feed(' '), 160);
        due("feed of the 161st behind end(159)", x.feed(' '), FULL);
        Probe full = new Probe(() -> {
            SmokeSeats s = Evenings.busy();
            Checks.feed(s, blank(160 - Evenings.TAPE_OF_BUSY));
            return s;
        });
        full.unchangedBy("feed() of the 161st", s -> due("feed()", s.feed('!'), FULL));
        full.unchangedBy("feed() of the 161st, BAD", s -> due("feed()", s.feed(-1), BAD));
        full.unchangedBy("end(161)", s -> due("end()", s.end(161), BAD));
        Checks.sentence(0, "THE TAPE has 160 bytes, places from 0");
        due("text of 160 blanks", x.text(), 0);
        due("text of a fault at 0", Checks.tell(new SmokeSeats(), "!" + blank(159)), -10);
        due("text of a fault at 159", Checks.tell(new SmokeSeats(), blank(159) + "!"), -169);
    }

    // ---- promise 3

    private static void tapeKeepsItsFirst() {
        Checks.sentence(3, "THE TAPE keeps its first n bytes: how many it had. BAD");
        SmokeSeats x = new SmokeSeats();
        due("end(0), empty", x.end(0), 0);
        due("end(1), empty", x.end(1), BAD);
        due("end(-1), empty", x.end(-1), BAD);
        Checks.feed(x, "air 0 1;air 1 2;");
        due("end(17) of 16", x.end(17), BAD);
        due("end(16) of 16", x.end(16), 16);
        due("end(15) of 16", x.end(15), 16);
        due("end(16) of 15", x.end(16), BAD);
        due("end(8) of 15", x.end(8), 15);
        due("bytes", x.count(2), 8);
        due("feed behind 8", x.feed('!'), 9);
        due("text(): the 9th byte is another", x.text(), -18);
        Checks.feed(x, "air 0 1;!");
        x.end(8);
        due("text() of the first 8", x.text(), 1);
        due("air(0)", x.air(0), 1);
        Checks.feed(x, blank(160));
        due("end(161) of 160", x.end(161), BAD);
        due("end(160) of 160", x.end(160), 160);
        due("end(0) of 160", x.end(0), 160);
        due("end(0) of 0", x.end(0), 0);
        due("bytes at last", x.count(2), 0);
    }

    // ---- promise 4

    private static void textOfNothing() {
        Checks.sentence(4, "THE TAPE (empty then) tells all: how many lines");
        SmokeSeats x = new SmokeSeats();
        due("text(), empty", x.text(), 0);
        x = Evenings.busy();
        x.end(0);
        due("text(), empty, of a busy room", x.text(), 0);
        for (int what = 0; what <= 5; what++) {
            due("rule(" + what + ")", x.rule(what), 0);
            due("air(" + what + ")", x.air(what), 0);
        }
        due("IMAGES", x.count(1), 0);
        due("SEEN", x.count(0), 0);
        taken(blank(1), 0);
        taken(blank(160), 0);
        Checks.sentence(0, "text: { line }");
        taken("air 0 1;", 1);
        taken("air 0 1;air 1 1;", 2);
    }

    private static void textOfAllLines() {
        Checks.sentence(4, "how many lines");
        SmokeSeats x = new SmokeSeats();
        due("text() of all lines there can be", Checks.tell(x, ALL_LINES + blank(160 - ALL_LINES.length())), 17);
        due("LIVES", x.rule(0), 3);
        due("SITTERS", x.rule(1), 4);
        Checks.sentence(0, "plain, heavy, thin, happy: a LIFE more of that KIND: AT, PACE, LEFT");
        int[][] lives = {{0, 0, 1, 0}, {1, 43, 9, 99}, {3, 12, 5, 50}};
        for (int l = 0; l < lives.length; l++) {
            for (int what = 0; what < 4; what++) {
                due("life(" + l + ", " + what + ")", x.life(l, what), lives[l][what]);
            }
        }
        Checks.sentence(0, "sitter: a SITTER more: IN, SLEEVE");
        int[][] sitters = {{0, 0, 0, 9}, {43, 9, 0, 1}, {3, 1, 0, 1}, {40, 2, 0, 9}};
        for (int i = 0; i < sitters.length; i++) {
            for (int what = 0; what < 4; what++) {
                due("sitter(" + i + ", " + what + ")", x.sitter(i, what), sitters[i][what]);
            }
        }
        Checks.sentence(0, "air: which AIR (0 to 5), its WAY");
        int[] ways = {4, 3, 2, 1, 0, 4};
        for (int k = 0; k < ways.length; k++) {
            due("air(" + k + ")", x.air(k), ways[k]);
        }
        Checks.sentence(0, "price: a row (0 to 3), its PRICE");
        int[] prices = {9, 0, 5, 1};
        for (int y = 0; y < prices.length; y++) {
            due("price(" + y + ", 0)", x.price(y, 0), prices[y]);
        }
        Checks.sentence(0, "LIVES 0 on (3 at most, by order)");
        x = Checks.told("happy 1 1 1;thin 2 2 2;plain 3 3 3;");
        due("KINDS by order", 100 * x.life(0, 0) + 10 * x.life(1, 0) + x.life(2, 0), 320);
        Checks.sentence(0, "SITTERS 0 on (4 at most, by order)");
        x = Checks.told("sitter 3 1;sitter 2 2;sitter 1 3;sitter 0 4;");
        for (int i = 0; i < 4; i++) {
            due("IN of SITTER " + i, x.sitter(i, 0), 3 - i);
        }
    }

    private static void placesOfFaults() {
        Checks.sentence(4, "-10 less the place of its FAULT");
        faulty("!", 0, 1);
        faulty(blank(159) + "!", 159, 1);
        faulty(blank(159) + "z", 159, 2);
        faulty(blank(159) + ";", 159, 2);
        faulty(blank(159) + "1", 159, 2);
        faulty(blank(157) + "123", 157, 1);
        faulty(blank(152) + "air 0 5;", 158, 3);
        faulty("z".repeat(160), 0, 2);
        faulty("1".repeat(160), 0, 1);
        faulty("air" + "1".repeat(157), 3, 1);
        faulty("air 0" + blank(154) + "5", 159, 3);
        Checks.sentence(0, "or the end: the length");
        faulty("air 0 1", 7, 2);
        faulty("air 0 1" + blank(153), 160, 2);
        faulty(blank(157) + "air", 160, 2);
        faulty(blank(155) + "air 0", 160, 2);
        faulty("a", 0, 2);
        faulty("air", 3, 2);
        faulty("air ", 4, 2);
    }

    private static void textIsRefused() {
        Checks.sentence(4, "that which was told stays");
        Probe busy = new Probe(() -> {
            SmokeSeats x = Evenings.busy();
            x.end(0);
            return x;
        });
        // busy() has read 'air 6' latest, so FAULT 3 is what fault() answers in any case
        busy.unchangedBy("text() of a line and a fault", x -> due("text()",
            Checks.tell(x, "plain 43 9 99;sitter 43 9;air 0 2;price 0 9;air 6"), -58));
        busy.unchangedBy("text() of a fault alone", x -> due("text()", Checks.tell(x, "price 4 0;"), -16));
        afterARefusedText();
        Checks.sentence(0, "what is refused changes nothing (but THE TAPE, as told)");
        SmokeSeats x = new SmokeSeats();
        due("text() of a fault", Checks.tell(x, "air 0 1;!"), -18);
        due("bytes", x.count(2), 0);
        due("text() behind it", x.text(), 0);
        due("air(0)", x.air(0), 0);
    }

    /** Each call goes on by the LIVES and SITTERS there were, not by those that a refused text began to tell. */
    private static void afterARefusedText() {
        List<ToLongFunction<SmokeSeats>> calls = List.of(
            x -> x.life(1, 1), x -> x.sitter(1, 0), x -> x.has(1, 1), x -> x.in(22, 1), x -> x.alter(1, 2, 7),
            x -> x.seat(1, 1, 7), x -> x.open(), x -> x.steps(3), x -> x.runs(3, 0), x -> x.ahead(1, 1, 3),
            x -> x.wet(1, 1), x -> x.over(), x -> x.best(1, 1, 3), x -> x.cheap(1, 1, 1), x -> x.clean(1, 3, 1),
            x -> x.need(1, 1, 1), x -> x.swap(3, 1), x -> x.fan(1, 3, 1), x -> x.luck(5, 1, 3, 0),
            x -> x.mean(5, 1, 3, 0), x -> x.see(1, 1, 0, 0), x -> x.kinds(1), x -> x.froms(1, 0), x -> x.ask(1, 0),
            x -> x.drift(7, 9, 0), x -> x.keep(0), x -> x.count(4), x -> x.count(5));
        String[] refused = {"!", "thin 0 1 1;thin 0 1 1;thin 0 1 1;sitter 0 1;sitter 0 1;sitter 0 1;sitter 0 1;!"};
        for (int k = 0; k < calls.size(); k++) {
            for (String text : refused) {
                SmokeSeats x = twoAndTwo();
                due("text()", Checks.tell(x, text), -9 - text.length());
                due("call " + k + " behind '" + text + "'", calls.get(k).applyAsLong(x),
                    calls.get(k).applyAsLong(twoAndTwo()));
            }
        }
        for (String text : refused) {
            SmokeSeats x = twoAndTwo();
            Checks.tell(x, text);
            due("LIFE 2", x.life(2, 0), BAD);
            due("SITTER 2", x.sitter(2, 0), BAD);
            due("alter() of LIFE 2", x.alter(2, 0, 0), BAD);
            due("wet() of LIFE 2", x.wet(0, 2), BAD);
            due("kinds() of LIFE 2", x.kinds(2), BAD);
            due("see() of SITTER 2", x.see(2, 0, 0, 0), BAD);
        }
    }

    private static SmokeSeats twoAndTwo() {
        SmokeSeats x = Checks.told("plain 12 3 30;happy 22 5 40;sitter 22 1;sitter 32 4;air 0 1;air 1 4;air 3 2;price 2 4;");
        x.steps(5);
        return x;
    }

    private static void textIsTaken() {
        Checks.sentence(0, "A text that is taken tells all, in place of what there was");
        SmokeSeats x = Evenings.busy();
        due("text()", x.text(), 2);
        int[] rules = {1, 0, 0, 0, 0, 0};
        for (int what = 0; what <= 5; what++) {
            due("rule(" + what + ")", x.rule(what), rules[what]);
            due("air(" + what + ")", x.air(what), 0);
        }
        for (int c = 0; c < 20; c++) {
            due("in(" + Evenings.name(c) + ", 0)", x.in(Evenings.name(c), 0), 0);
        }
        int[] life = {2, 3, 2, 1, 0, 0, 0, BAD};
        for (int what = 0; what < life.length; what++) {
            due("life(0, " + what + ")", x.life(0, what), life[what]);
        }
        int[] prices = {0, 0, 6, 0};
        for (int y = 0; y < prices.length; y++) {
            due("price(" + y + ", 0)", x.price(y, 0), prices[y]);
        }
        due("all that is LEFT", x.count(4), 1);
        due("PRICES of nobody", x.count(5), 0);
        theSameTextAgain();
        Checks.sentence(0, "nothing is SEEN");
        due("SEEN", x.count(0), 0);
        due("forget(0)", x.forget(0), 0);
        due("kinds(0)", x.kinds(0), 15);
        Checks.sentence(0, "IMAGES are gone");
        due("IMAGES", x.count(1), 0);
        due("back(0)", x.back(0), STATE);
        due("back(1)", x.back(1), STATE);
        due("keep(0)", x.keep(0), 0);
        // it tells of SHEETS nothing, nor of what read() found
        due("CELLS of SHEET 0", x.count(3), 5);
        due("torn()", x.torn(), 2);
    }

    /** Nothing is left behind of what was, nor of what would have been. */
    private static void theSameTextAgain() {
        String text = "thin 0 9 99;plain 0 9 99;heavy 0 9 99;sitter 0 9;sitter 0 9;sitter 0 9;sitter 0 9;air 0 1;";
        SmokeSeats x = Checks.told(text);
        x.steps(9);
        x.open();
        x.steps(9);
        x.runs(60, 0);
        due("the same text() again", Checks.tell(x, text), 8);
        for (int k = 0; k < 12; k++) {
            due("has(" + k / 3 + ", " + k % 3 + ")", x.has(k / 3, k % 3), 0);
        }
        for (int l = 0; l < 3; l++) {
            due("LEFT of " + l, x.life(l, 3), 99);
            due("IN CELLS of " + l, x.life(l, 4), 0);
            due("LOST of " + l, x.life(l, 5), 0);
            for (int c = 0; c < 20; c++) {
                due("in(" + Evenings.name(c) + ", " + l + ")", x.in(Evenings.name(c), l), 0);
            }
        }
        due("steps(1)", x.steps(1), 27);
    }

    // ---- promise 5

    private static void latestFault() {
        Checks.sentence(5, "The FAULT of the latest text(); 0");
        SmokeSeats x = new SmokeSeats();
        due("fault() of none", x.fault(), 0);
        String[] texts = {"!", ";", "air 6", "air 0 0;air 0", "sitter 0 0;sitter 0 0;sitter 0 0;sitter 0 0;sitter"};
        for (int k = 0; k < texts.length; k++) {
            Checks.tell(x, texts[k]);
            due("fault() of '" + texts[k] + "'", x.fault(), k + 1);
            due("fault() again", x.fault(), k + 1);
        }
        x.feed('!');
        due("fault() behind feed()", x.fault(), 5);
        x.end(0);
        due("fault() behind end()", x.fault(), 5);
        x.keep(0);
        due("text() of nothing", x.text(), 0);
        due("fault() of a text that is taken", x.fault(), 0);
        x.keep(0);
        Checks.tell(x, "!");
        due("back(0)", x.back(0), 0);
        due("fault() behind back()", x.fault(), 1);
    }

    // ---- the TOKENS

    private static void blanks() {
        Checks.sentence(0, "TOKENS, each as long as may be, blanks (32) between");
        taken("air0 1;", 1);
        taken("  air  0  1  ;  ", 1);
        taken("plain12 3 4;sitter03 09;", 2);
        faulty("airair 0 1;", 0, 2);
        faulty("a ir 0 1;", 0, 2);
        faulty("air 01;", 6, 2);
        faulty("air 0 1;air", 11, 2);
        for (int c : new int[] {0, 9, 10, 13, 31, 33, 127}) {
            faulty("air" + (char) c + "0 1;", 3, 1);
            faulty("air 0" + (char) c + "1;", 5, 1);
            faulty("air 0 1;" + (char) c, 8, 1);
            faulty((char) c + "air 0 1;", 0, 1);
        }
        Checks.sentence(0, "1 no TOKEN, a NUMBER that is too long (its first byte)");
        faulty("air 0 1;  @ air 1 1;", 10, 1);
        faulty("air 0  123;", 7, 1);
        faulty("air 0 1000000000000000000000000;", 6, 1);
        faulty("air 0 000;", 6, 1);
        faulty("air 0 1-", 7, 1);
        faulty("air -1 1;", 4, 1);
        faulty("air +1 1;", 4, 1);
    }

    private static void names() {
        Checks.sentence(0, "NAMES (a .. z)");
        faulty("a", 0, 2);
        faulty("z", 0, 2);
        faulty("az", 0, 2);
        faulty("`", 0, 1);
        faulty("{", 0, 1);
        faulty("A", 0, 1);
        faulty("Z", 0, 1);
        faulty("air`0 1;", 3, 1);
        faulty("air{0 1;", 3, 1);
        faulty("Air 0 1;", 0, 1);
        faulty("aiR 0 1;", 0, 2);
        Checks.sentence(0, "2 a TOKEN that can not stand there (a NAME that begins no line;");
        for (String name : NAMES) {
            faulty(name.substring(1) + " 1 1 1;", 0, 2);
            faulty(name.substring(0, name.length() - 1) + " 1 1 1;", 0, 2);
            faulty(name + "s 1 1 1;", 0, 2);
            for (int k = 0; k < name.length(); k++) {
                faulty(name.substring(0, k) + "q" + name.substring(k + 1) + " 1 1 1;", 0, 2);
            }
        }
        faulty("life 1 1 1;", 0, 2);
        faulty("air 0 1;   end", 11, 2);
    }

    private static void numbers() {
        Checks.sentence(0, "NUMBERS (1 or 2 figures)");
        SmokeSeats x = new SmokeSeats();
        due("text() of one figure", Checks.tell(x, "thin 0 1 0;price 3 9;"), 2);
        due("LEFT", x.life(0, 3), 0);
        due("text() of two figures", Checks.tell(x, "thin 43 09 99;thin 00 01 00;"), 2);
        due("AT", x.life(0, 1), 43);
        due("PACE", x.life(0, 2), 9);
        due("LEFT", x.life(0, 3), 99);
        due("AT of 00", x.life(1, 1), 0);
        due("PACE of 01", x.life(1, 2), 1);
        due("LEFT of 00", x.life(1, 3), 0);
        for (int left = 0; left <= 99; left++) {
            x = Checks.told("thin 0 1 " + left + ";");
            due("LEFT", x.life(0, 3), left);
        }
        faulty("thin 0 1 100;", 9, 1);
        faulty("thin 0 1 099;", 9, 1);
        faulty("thin 0 001 0;", 7, 1);
        faulty("thin 000 1 0;", 5, 1);
        // the signs on either side of the figures
        faulty("air / 1;", 4, 1);
        faulty("air : 1;", 4, 1);
        faulty("air 0/ 1;", 5, 1);
        faulty("air 0: 1;", 5, 1);
        Checks.sentence(0, "one ;");
        faulty("air 0 1;;", 8, 2);
        faulty("air 0 1; ;", 9, 2);
        faulty("air 0 1<", 7, 1);
        faulty(";air 0 1;", 0, 2);
    }

    /** Each line, cut off behind each of its TOKENS, and with each kind of TOKEN in each place. */
    private static void lines() {
        for (int line = 0; line < NAMES.length; line++) {
            int numbers = GREATEST[line].length;
            Checks.sentence(0, "line: plain N N N ; | heavy N N N ; | thin N N N ; | happy N N N ; | sitter N N ;"
                + " | air N N ; | price N N ;");
            String whole = NAMES[line] + " 1".repeat(numbers) + " ;";
            taken(whole, 1);
            taken(whole + whole.replaceFirst(" 1", " 2"), 2);
            Checks.sentence(0, "2 a TOKEN that can not stand there (a NAME that begins no line; or the end: the length)");
            for (int k = 0; k <= numbers; k++) {
                String start = NAMES[line] + " 1".repeat(k);
                int place = start.length() + 1;
                faulty(start, start.length(), 2);
                faulty(start + "   ", start.length() + 3, 2);
                faulty(start + " air 1 1;", place, 2);
                faulty(start + (k == numbers ? " 1;" : " ;"), place, 2);
                Checks.sentence(0, "1 no TOKEN, a NUMBER that is too long (its first byte)");
                faulty(start + " %", place, 1);
                faulty(start + " 111;", place, 1);
                Checks.sentence(0, "2 a TOKEN that can not stand there");
            }
        }
    }

    // ---- the FAULTS 3, 4, 5

    private static void boundsOfNumbers() {
        Checks.sentence(0, "3 a NUMBER out of its bounds (a CELL: tens 0 to 4, ones 0 to 3)");
        for (int line = 0; line < NAMES.length; line++) {
            for (int k = 0; k < GREATEST[line].length; k++) {
                String start = NAMES[line] + " 1".repeat(k) + " ";
                String rest = " 1".repeat(GREATEST[line].length - 1 - k) + ";";
                boolean isPace = line < 4 && k == 1;
                boolean isCell = line < 5 && k == 0;
                for (int n = 0; n <= 99; n++) {
                    boolean isIn = isCell ? Evenings.isCell(n) : n <= GREATEST[line][k] && (n > 0 || !isPace);
                    if (isIn) {
                        taken(start + n + rest, 1);
                    } else {
                        faulty(start + n + rest, start.length(), 3);
                    }
                }
            }
        }
    }

    private static void cellsOfLines() {
        Checks.sentence(0, "told AT a CELL");
        for (int c = 0; c < 20; c++) {
            SmokeSeats x = new SmokeSeats();
            int cell = Evenings.name(c);
            due("text() of " + cell, Checks.tell(x, "heavy " + cell + " 9 9;sitter " + cell + " 4;"), 2);
            due("AT", x.life(0, 1), cell);
            Checks.sentence(0, "each IN a CELL");
            due("IN", x.sitter(0, 0), cell);
            due("steps(1)", x.steps(1), 4);
            due("in(" + cell + ", 0)", x.in(cell, 0), 5);
        }
    }

    private static void toldAlready() {
        Checks.sentence(0, "4 an AIR, a row that is told already (it)");
        for (int k = 0; k <= 5; k++) {
            faulty("air " + k + " 1;air " + k + " 1;", 12, 4);
            faulty("air " + k + " 0;air  0" + k + " 4;", 13, 4);
        }
        for (int y = 0; y <= 3; y++) {
            faulty("price " + y + " 0;price " + y + " 0;", 16, 4);
            faulty("price " + y + " 1;air " + y + " 1;price 0" + y + " 2;", 24, 4);
        }
        // an AIR is no row, nor is either told already by an earlier text
        taken("air 0 1;price 0 1;air 3 1;price 3 1;", 4);
        SmokeSeats x = new SmokeSeats();
        due("text()", Checks.tell(x, "air 5 1;price 3 1;"), 2);
        due("the same text() again", Checks.tell(x, "air 5 1;price 3 1;"), 2);
        due("text() that breaks off", Checks.tell(x, "air 5 2;price 3 2;!"), -28);
        due("the same text() behind it", Checks.tell(x, "air 5 1;price 3 1;"), 2);
    }

    private static void tooMany() {
        Checks.sentence(0, "5 the 4th LIFE, the 5th sitter (its NAME)");
        String three = "thin 0 1 1;plain 0 1 1;happy 0 1 1;";
        String four = "sitter 0 1;sitter 0 1;sitter 0 1;sitter 0 1;";
        taken(three, 3);
        taken(four, 4);
        taken(three + four, 7);
        for (int kind = 0; kind < 4; kind++) {
            faulty(three + NAMES[kind] + " 0 1 1;", 35, 5);
            faulty(three + "  " + NAMES[kind] + " 0 1 1;", 37, 5);
            faulty(four + three + NAMES[kind] + " 0 1 1;", 79, 5);
        }
        faulty(four + "sitter 0 1;", 44, 5);
        faulty(three + four + " sitter 0 1;", 80, 5);
        SmokeSeats x = new SmokeSeats();
        for (int k = 0; k < 2; k++) {
            due("text() of three and four", Checks.tell(x, three + four), 7);
        }
    }

    private static void firstMet() {
        Checks.sentence(0, "FAULTS, the first met as it is read (a TOKEN is read when the one before has been taken)");
        String three = "thin 0 1 1;plain 0 1 1;happy 0 1 1;";
        String four = "sitter 0 1;sitter 0 1;sitter 0 1;sitter 0 1;";
        // what stands behind a FAULT is not read
        faulty("zz!", 0, 2);
        faulty("; 123", 0, 2);
        faulty("air 6!", 4, 3);
        faulty("air 6 123", 4, 3);
        faulty("air 6", 4, 3);
        faulty("air 0 5 5", 6, 3);
        faulty("plain 4 0 1;", 6, 3);
        faulty("plain 3 0!", 8, 3);
        faulty("sitter 50 10;", 7, 3);
        faulty("price 4 10;", 6, 3);
        faulty("air 1 1;air 1!", 12, 4);
        faulty("air 1 1;air 1", 12, 4);
        faulty("air 1 1;air 1 5;", 12, 4);
        faulty("air 1 1;air 1 123;", 12, 4);
        faulty(three + "plain!", 35, 5);
        faulty(three + "plain", 35, 5);
        faulty(three + "plain 99 1 1;", 35, 5);
        faulty(four + "sitter!", 44, 5);
        faulty(four + "sitter;", 44, 5);
        // and what stands ahead of it is met first
        faulty("air 1 1!", 7, 1);
        faulty("air 0 1;air 9 1;air 0 1;", 12, 3);
        faulty("air 0 1;air 0 1;air 9 1;", 12, 4);
        faulty("air 0 5;" + three + "thin 0 1 1;", 6, 3);
        faulty(three + "thin 0 1 1;air 0 5;", 35, 5);
        faulty(three + "thins 0 1 1;", 35, 2);
        // too long comes ahead of its bounds and of what is told already
        faulty("air 999 1;", 4, 1);
        faulty("air 1 1;air 001 1;", 12, 1);
    }

    // ---- promises 6 to 11

    private static void askedOfNone() {
        SmokeSeats x = new SmokeSeats();
        Checks.sentence(6, "0 LIVES, 1 SITTERS, 2 STEP, 3 all that is IN CELLS, 4 all that is LOST, 5 all that SITTERS HAVE");
        for (int what = 0; what <= 5; what++) {
            due("rule(" + what + "), nobody", x.rule(what), 0);
        }
        Checks.sentence(7, "BAD");
        for (int what = 0; what <= 6; what++) {
            due("life(0, " + what + "), no LIVES", x.life(0, what), BAD);
        }
        Checks.sentence(8, "BAD");
        for (int what = 0; what <= 3; what++) {
            due("sitter(0, " + what + "), nobody", x.sitter(0, what), BAD);
        }
        Checks.sentence(9, "What a SITTER HAS of a LIFE. BAD");
        due("has(0, 0), nobody and no LIVES", x.has(0, 0), BAD);
        due("has(0, 0), no LIVES", Evenings.of(0, 4).has(0, 0), BAD);
        due("has(0, 0), nobody", Evenings.of(3, 0).has(0, 0), BAD);
        Checks.sentence(10, "What is IN a CELL of a LIFE. BAD");
        due("in(0, 0), no LIVES", x.in(0, 0), BAD);
        due("in(0, 2), nobody, three LIVES", Evenings.of(3, 0).in(0, 2), 0);
        Checks.sentence(11, "WAY of an AIR. BAD");
        due("air(0), nobody", x.air(0), 0);
        due("air(5), nobody", x.air(5), 0);
    }

    /** Three LIVES and four SITTERS, each with numbers of its own behind two STEPS. */
    private static void askedOfAll() {
        SmokeSeats x = Checks.told("thin 0 9 99;plain 43 8 20;heavy 40 2 3;"
            + "sitter 0 5;sitter 43 6;sitter 40 1;sitter 43 4;air 0 2;air 1 1;price 0 9;price 3 1;");
        // STEP 0: 9, 8, 2 come; 5, 6, 1, 2 are taken; of 4, 0, 1 4 thin ones are lost by x less
        // STEP 1: 9, 8, 1 come; 5, 6, 1, 2 are taken; of 4, 0, 1 4 thin ones move by x more
        due("steps(2)", x.steps(2), 28);
        Checks.sentence(6, "0 LIVES, 1 SITTERS, 2 STEP, 3 all that is IN CELLS, 4 all that is LOST, 5 all that SITTERS HAVE");
        int[] rules = {3, 4, 2, 5, 4, 28};
        for (int what = 0; what < rules.length; what++) {
            due("rule(" + what + ")", x.rule(what), rules[what]);
        }
        Checks.sentence(7, "0 KIND, 1 AT, 2 PACE, 3 LEFT, 4 what is IN CELLS, 5 what is LOST, 6 what SITTERS HAVE");
        int[][] lives = {{2, 0, 9, 81, 4, 4, 10}, {0, 43, 8, 4, 0, 0, 16}, {1, 40, 2, 0, 1, 0, 2}};
        for (int l = 0; l < lives.length; l++) {
            for (int what = 0; what <= 6; what++) {
                due("life(" + l + ", " + what + ")", x.life(l, what), lives[l][what]);
            }
        }
        Checks.sentence(8, "0 IN, 1 SLEEVE, 2 all that he HAS, 3 PRICE of his row");
        int[][] sitters = {{0, 5, 10, 9}, {43, 6, 12, 1}, {40, 1, 2, 9}, {43, 4, 4, 1}};
        for (int i = 0; i < sitters.length; i++) {
            for (int what = 0; what <= 3; what++) {
                due("sitter(" + i + ", " + what + ")", x.sitter(i, what), sitters[i][what]);
            }
        }
        Checks.sentence(9, "What a SITTER HAS of a LIFE");
        int[][] has = {{10, 0, 0}, {0, 12, 0}, {0, 0, 2}, {0, 4, 0}};
        for (int k = 0; k < 12; k++) {
            due("has(" + k / 3 + ", " + k % 3 + ")", x.has(k / 3, k % 3), has[k / 3][k % 3]);
        }
        Checks.sentence(10, "What is IN a CELL of a LIFE");
        due("in(10, 0)", x.in(10, 0), 4);
        due("in(40, 2)", x.in(40, 2), 1);
        int all = 0;
        for (int k = 0; k < 60; k++) {
            all += x.in(Evenings.name(k / 3), k % 3);
        }
        due("all of them", all, 5);
    }

    private static void constants() {
        Checks.sentence(0, "Answers: BAD -1 (a number is not as told, there is no such CELL, LIFE, SITTER, IMAGE, SHEET),"
            + " STATE -2 (as told), FULL -3, NONE -4 (there is none)");
        due("BAD", SmokeSeats.BAD, -1);
        due("STATE", SmokeSeats.STATE, -2);
        due("FULL", SmokeSeats.FULL, -3);
        due("NONE", SmokeSeats.NONE, -4);
    }
}
