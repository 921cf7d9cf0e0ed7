import java.util.Arrays;

/**
 * Each number of each call: the least and the greatest that are taken, the first that is refused on either side, and
 * the least and the greatest int. What is refused changes nothing, nor does a call that only asks.
 */
public final class BoundsTest {
    private static final int BAD = Checks.BAD, LEAST = Checks.LEAST, MOST = Checks.MOST;
    private static final Probe BUSY = new Probe(Evenings::busy);

    /** A call of the face by its numbers. */
    private interface Call {
        long on(SmokeSeats x, int[] a);
    }

    public static void main(String[] args) {
        theText();
        whatIsChanged();
        steps();
        whatIsBest();
        airsThatFallStill();
        whoseItWas();
        imagesAndSheets();
        cells();
        fewerLivesAndSitters();
        theFirstThatFits();
        Checks.finish();
    }

    private static void theText() {
        change(2, "A byte (0 to 127)", (x, a) -> x.feed(a[0]), 0, 0, 127, 65);
        change(3, "THE TAPE keeps its first n bytes", (x, a) -> x.end(a[0]), 0, 0, Evenings.TAPE_OF_BUSY, 5);
        ask(6, "0 LIVES, 1 SITTERS, 2 STEP, 3 all that is IN CELLS, 4 all that is LOST, 5 all that SITTERS HAVE. BAD",
            (x, a) -> x.rule(a[0]), 0, 0, 5, 0);
        Call life = (x, a) -> x.life(a[0], a[1]);
        ask(7, "Of a LIFE", life, 0, 0, 2, 1, 1);
        ask(7, "0 KIND, 1 AT, 2 PACE, 3 LEFT, 4 what is IN CELLS, 5 what is LOST, 6 what SITTERS HAVE. BAD",
            life, 1, 0, 6, 1, 1);
        Call sitter = (x, a) -> x.sitter(a[0], a[1]);
        ask(8, "Of a SITTER", sitter, 0, 0, 3, 1, 1);
        ask(8, "0 IN, 1 SLEEVE, 2 all that he HAS, 3 PRICE of his row. BAD", sitter, 1, 0, 3, 1, 1);
        Call has = (x, a) -> x.has(a[0], a[1]);
        ask(9, "What a SITTER HAS of a LIFE. BAD", has, 0, 0, 3, 1, 1);
        ask(9, "What a SITTER HAS of a LIFE. BAD", has, 1, 0, 2, 1, 1);
        ask(10, "of a LIFE. BAD", (x, a) -> x.in(a[0], a[1]), 1, 0, 2, 11, 1);
        ask(11, "WAY of an AIR. BAD", (x, a) -> x.air(a[0]), 0, 0, 5, 1);
    }

    private static void whatIsChanged() {
        Call alter = (x, a) -> x.alter(a[0], a[1], a[2]);
        change(12, "of a LIFE becomes v", alter, 0, 0, 2, 1, 2, 5);
        change(12, "KIND, AT, PACE, LEFT (what 0 to 3)", alter, 1, 0, 3, 1, 2, 1);
        change(0, "each of a KIND (0 plain, 1 heavy, 2 thin, 3 happy)", alter, 2, 0, 3, 1, 0, 0);
        change(0, "PACE (1 to 9) of it a STEP", alter, 2, 1, 9, 1, 2, 5);
        change(0, "of which is LEFT so much (0 to 99)", alter, 2, 0, 99, 1, 3, 5);
        Call seat = (x, a) -> x.seat(a[0], a[1], a[2]);
        change(13, "of a SITTER becomes v", seat, 0, 0, 3, 1, 1, 5);
        change(13, "IN, SLEEVE (what 0, 1)", seat, 1, 0, 1, 1, 1, 2);
        change(0, "with a SLEEVE (0 to 9)", seat, 2, 0, 9, 1, 1, 5);
        Call blow = (x, a) -> x.blow(a[0], a[1]);
        change(14, "WAY of an AIR becomes v: what it was. BAD", blow, 0, 0, 5, 1, 1);
        change(14, "WAY of an AIR becomes v: what it was. BAD", blow, 1, 0, 4, 1, 1);
        Call price = (x, a) -> x.price(a[0], a[1]);
        change(15, "PRICE of a row becomes v: what it was. BAD", price, 0, 0, 3, 1, 1);
        change(0, "PRICES of rows y (0 to 9; 0 at first)", price, 1, 0, 9, 1, 1);
    }

    private static void steps() {
        change(17, "n STEPS (0 to 30): what SITTERS take in them. BAD", (x, a) -> x.steps(a[0]), 0, 0, 30, 1);
        Call runs = (x, a) -> x.runs(a[0], a[1]);
        ask(18, "BY STEPS, n of them (0 to 60)", runs, 0, 0, 60, 3, 1);
        ask(18, "what SITTERS HAVE then (what 0), what is LOST then (1), what is IN CELLS then (2), behind how many first"
            + " a SITTER HAS more than now (3; NONE). BAD", runs, 1, 0, 3, 3, 1);
        Call ahead = (x, a) -> x.ahead(a[0], a[1], a[2]);
        ask(19, "what a SITTER HAS of a LIFE then. BAD", ahead, 0, 0, 3, 1, 1, 3);
        ask(19, "what a SITTER HAS of a LIFE then. BAD", ahead, 1, 0, 2, 1, 1, 3);
        ask(19, "BY STEPS, n of them (0 to 60)", ahead, 2, 0, 60, 1, 1, 3);
        Call wet = (x, a) -> x.wet(a[0], a[1]);
        ask(20, "a SITTER HAS more of a LIFE than now. BAD", wet, 0, 0, 3, 1, 1);
        ask(20, "a SITTER HAS more of a LIFE than now. BAD", wet, 1, 0, 2, 1, 1);
        Checks.sentence(21, "BY STEPS");
        BUSY.unchangedBy("over()", SmokeSeats::over);
    }

    private static void whatIsBest() {
        Call best = (x, a) -> x.best(a[0], a[1], a[2]);
        ask(22, "The CELL to sit IN from now on by which a SITTER HAS most of a LIFE", best, 0, 0, 3, 1, 1, 3);
        ask(22, "The CELL to sit IN from now on by which a SITTER HAS most of a LIFE", best, 1, 0, 2, 1, 1, 3);
        ask(22, "behind n STEPS (0 to 60), of several the first: the CELL. BAD", best, 2, 0, 60, 1, 1, 3);
        Call cheap = (x, a) -> x.cheap(a[0], a[1], a[2]);
        ask(23, "The CELL to sit IN from now on by which a SITTER HAS", cheap, 0, 0, 3, 1, 1, 3);
        ask(23, "The CELL to sit IN from now on by which a SITTER HAS", cheap, 1, 0, 2, 1, 1, 3);
        ask(23, "v (1 to 999) or more of a LIFE", cheap, 2, 1, 999, 1, 1, 3);
        Call clean = (x, a) -> x.clean(a[0], a[1], a[2]);
        ask(24, "The CELL to sit IN from now on by which a SITTER takes least", clean, 0, 0, 3, 1, 3, 1);
        ask(24, "in n STEPS (0 to 60)", clean, 1, 0, 60, 1, 3, 1);
        ask(24, "of several the first (what 0), how much (1). BAD", clean, 2, 0, 1, 1, 3, 1);
        Call need = (x, a) -> x.need(a[0], a[1], a[2]);
        ask(25, "The least SLEEVE by which a SITTER HAS", need, 0, 0, 3, 1, 1, 3);
        ask(25, "The least SLEEVE by which a SITTER HAS", need, 1, 0, 2, 1, 1, 3);
        ask(25, "v (1 to 999) or more of a LIFE", need, 2, 1, 999, 1, 1, 3);
        Call swap = (x, a) -> x.swap(a[0], a[1]);
        ask(26, "behind n STEPS (0 to 60), more than as it is", swap, 0, 0, 60, 3, 1);
        ask(26, "of several the least (what 0), how much (1). BAD", swap, 1, 0, 1, 3, 1);
        Call fan = (x, a) -> x.fan(a[0], a[1], a[2]);
        ask(27, "One AIR to have another WAY so that a SITTER HAS most of all LIVES", fan, 0, 0, 3, 1, 3, 1);
        ask(27, "behind n STEPS (0 to 60), more than as it is", fan, 1, 0, 60, 1, 3, 1);
        ask(27, "of several the least (what 0), how much (1). BAD", fan, 2, 0, 1, 1, 3, 1);
    }

    private static void airsThatFallStill() {
        Call luck = (x, a) -> x.luck(a[0], a[1], a[2], a[3]);
        ask(28, "it is still by v out of ten (0 to 10)", luck, 0, 0, 10, 3, 1, 3, 1);
        ask(28, "that a SITTER takes some of any LIFE in them", luck, 1, 0, 3, 3, 1, 3, 1);
        ask(28, "In each of n STEPS (0 to 8)", luck, 2, 0, 8, 3, 1, 3, 1);
        ask(28, "0, 1. BAD", luck, 3, 0, 1, 3, 1, 3, 1);
        Call mean = (x, a) -> x.mean(a[0], a[1], a[2], a[3]);
        ask(29, "Likewise", mean, 0, 0, 10, 3, 1, 3, 1);
        ask(29, "the mean of what SITTER i takes in all", mean, 1, 0, 3, 3, 1, 3, 1);
        ask(29, "Likewise", mean, 2, 0, 8, 3, 1, 3, 1);
        ask(29, "0, 1. BAD", mean, 3, 0, 1, 3, 1, 3, 1);
    }

    private static void whoseItWas() {
        Call see = (x, a) -> x.see(a[0], a[1], a[2], a[3]);
        change(30, "a SITTER HAS", see, 0, 0, 3, 1, 1, 3, 3);
        change(30, "of a LIFE: how many are. BAD", see, 1, 0, 2, 1, 1, 3, 3);
        change(30, "SEEN: behind n STEPS (0 to 30)", see, 2, 0, 30, 1, 1, 3, 3);
        change(30, "v (0 to 999)", see, 3, 0, 999, 1, 1, 3, 3);
        change(31, "SEEN are the first n alone: how many there were. BAD", (x, a) -> x.forget(a[0]),
            0, 0, Evenings.SEEN_OF_BUSY, 2);
        ask(32, "KINDS of a LIFE (bits)", (x, a) -> x.kinds(a[0]), 0, 0, 2, 1);
        Call froms = (x, a) -> x.froms(a[0], a[1]);
        ask(33, "CELLS AT which a LIFE may be told from now on", froms, 0, 0, 2, 1, 1);
        ask(33, "how many (what 0), the first (1). BAD", froms, 1, 0, 1, 1, 1);
        Call whom = (x, a) -> x.ask(a[0], a[1]);
        ask(34, "The SITTER to ask how much of a LIFE he HAS", whom, 0, 0, 2, 1, 1);
        ask(34, "the first (what 0), how many these are (1). BAD", whom, 1, 0, 1, 1, 1);
        Call drift = (x, a) -> x.drift(a[0], a[1], a[2]);
        ask(35, "n STEPS (1 to 60) by a seed", drift, 1, 1, 60, 7, 3, 1);
        ask(35, "what SITTERS take (what 0), what is LOST in them (1). BAD", drift, 2, 0, 1, 7, 3, 1);
        // of the seed no bound is told: each int is one
        for (int seed : new int[] {LEAST, -1, 0, 1, MOST}) {
            taken("drift", drift, new int[] {seed, 3, 1});
        }
    }

    private static void imagesAndSheets() {
        change(36, "IMAGE k (0, 1)", (x, a) -> x.keep(a[0]), 0, 0, 1, 1);
        change(37, "All is as IMAGE k: STEP. BAD", (x, a) -> x.back(a[0]), 0, 0, 1, 1);
        Call sheet = (x, a) -> x.sheet(a[0], a[1], a[2]);
        change(38, "A SHEET is a new row", sheet, 0, 0, 3, 1, 1, 4);
        change(0, "rows of BYTES (lane 0), SHORTS (1), INTS (2)", sheet, 1, 0, 2, 1, 1, 4);
        Checks.sentence(38, "BAD: also n above 40; -10 - 4");
        refused(sheet, BAD, 2, 41, 1, 1, 4);
        refused(sheet, BAD, 2, MOST, 1, 1, 4);
        refused(sheet, -14, 2, -1, 1, 1, 4);
        refused(sheet, -14, 2, LEAST, 1, 1, 4);
        taken("sheet", sheet, new int[] {1, 1, 40});
        taken("sheet", sheet, new int[] {1, 1, 0});
        Call lay = (x, a) -> x.lay(a[0], a[1], a[2]);
        Checks.sentence(39, "BAD: k");
        for (int k : new int[] {-1, 4, LEAST, MOST}) {
            refused(lay, BAD, 0, k, 1, 1, 3);
        }
        Checks.sentence(39, "-10 less the FAULT: NULL, INDEX");
        refused(lay, -11, 0, 3, 1, 1, 3);
        for (int i : new int[] {-1, 4, LEAST, MOST}) {
            refused(lay, -12, 1, i, 1, 1, 3);
        }
        taken("lay", lay, new int[] {1, 0, 3});
        taken("lay", lay, new int[] {1, 3, 3});
        for (int v : new int[] {LEAST, -1, 0, MOST}) {
            taken("lay", lay, new int[] {1, 1, v});
        }
        Call read = (x, a) -> x.read(a[0], a[1], a[2], a[3]);
        change(40, "BAD: k, lane, n", read, 0, 0, 3, 1, 1, 0, 1);
        change(40, "BAD: k, lane, n", read, 1, 0, 2, 1, 1, 0, 1);
        change(40, "n (0 to 20) times", read, 3, 0, 20, 1, 1, 0, 1);
        ask(42, "How many: 0 SEEN, 1 IMAGES, 2 bytes on THE TAPE, 3 CELLS of SHEET 0 (NONE: nothing), 4 all that is LEFT,"
            + " 5 PRICES of all SITTERS. BAD", (x, a) -> x.count(a[0]), 0, 0, 5, 1);
        Checks.sentence(5, "The FAULT of the latest text()");
        BUSY.unchangedBy("fault()", SmokeSeats::fault);
        Checks.sentence(41, "The FAULT of the latest read()");
        BUSY.unchangedBy("torn()", SmokeSeats::torn);
    }

    /** Twenty names among all numbers by which a CELL could be taken for one. */
    private static void cells() {
        Call in = (x, a) -> x.in(a[0], a[1]);
        Call alter = (x, a) -> x.alter(a[0], a[1], a[2]);
        Call seat = (x, a) -> x.seat(a[0], a[1], a[2]);
        Checks.sentence(0, "1 THE ROOM: CELLS x of 0 to 4 and y of 0 to 3, named 10 times x and y");
        for (int name = -60; name <= 110; name++) {
            SmokeSeats x = Evenings.busy();
            boolean isCell = Evenings.isCell(name);
            Checks.due("in(" + name + ", 1) is taken", x.in(name, 1) != BAD ? 1 : 0, isCell ? 1 : 0);
            Checks.due("alter(1, 1, " + name + ") is taken", x.alter(1, 1, name) != BAD ? 1 : 0, isCell ? 1 : 0);
            Checks.due("seat(1, 0, " + name + ") is taken", x.seat(1, 0, name) != BAD ? 1 : 0, isCell ? 1 : 0);
        }
        int[] no = {-1, -10, 4, 9, 14, 34, 44, 50, 100, LEAST, MOST};
        Checks.sentence(10, "What is IN a CELL");
        for (int name : no) {
            refused(in, BAD, 0, name, 11, 1);
        }
        Checks.sentence(12, "BAD");
        for (int name : no) {
            refused(alter, BAD, 2, name, 1, 1, 11);
        }
        Checks.sentence(13, "BAD");
        for (int name : no) {
            refused(seat, BAD, 2, name, 1, 0, 11);
        }
    }

    /** A LIFE, a SITTER is there if the text told it: with none of them, with one, up to three and four. */
    private static void fewerLivesAndSitters() {
        Checks.sentence(0, "there is no such CELL, LIFE, SITTER, IMAGE, SHEET");
        Call[] ofLives = {(x, a) -> x.life(a[0], 0), (x, a) -> x.in(11, a[0]), (x, a) -> x.alter(a[0], 0, 0),
            (x, a) -> x.kinds(a[0]), (x, a) -> x.froms(a[0], 0), (x, a) -> x.ask(a[0], 0)};
        Call[] ofSitters = {(x, a) -> x.sitter(a[0], 0), (x, a) -> x.seat(a[0], 0, 0), (x, a) -> x.clean(a[0], 1, 0),
            (x, a) -> x.fan(a[0], 1, 0), (x, a) -> x.luck(5, a[0], 1, 0), (x, a) -> x.mean(5, a[0], 1, 0)};
        Call[] ofBoth = {(x, a) -> x.has(a[0], a[1]), (x, a) -> x.ahead(a[0], a[1], 1), (x, a) -> x.wet(a[0], a[1]),
            (x, a) -> x.best(a[0], a[1], 1), (x, a) -> x.cheap(a[0], a[1], 1), (x, a) -> x.need(a[0], a[1], 1),
            (x, a) -> x.see(a[0], a[1], 1, 1)};
        for (int lives = 0; lives <= 3; lives++) {
            for (int sitters = 0; sitters <= 4; sitters++) {
                for (int l = 0; l <= 3; l++) {
                    thereIs(ofLives, lives, sitters, l < lives, l);
                }
                for (int i = 0; i <= 4; i++) {
                    thereIs(ofSitters, lives, sitters, i < sitters, i);
                    for (int l = 0; l <= 3; l++) {
                        thereIs(ofBoth, lives, sitters, i < sitters && l < lives, i, l);
                    }
                }
            }
        }
    }

    private static void thereIs(Call[] calls, int lives, int sitters, boolean isTaken, int... a) {
        SmokeSeats x = Evenings.of(lives, sitters);
        for (int k = 0; k < calls.length; k++) {
            String name = "call " + k + Arrays.toString(a) + " with " + lives + " LIVES, " + sitters + " SITTERS";
            Checks.due(name + " is taken", calls[k].on(x, a) != BAD ? 1 : 0, isTaken ? 1 : 0);
        }
    }

    /** Where two answers fit, BAD comes ahead of STATE, FULL, NONE and the FAULTS of the machine. */
    private static void theFirstThatFits() {
        Checks.sentence(0, "the first that fits");
        SmokeSeats none = new SmokeSeats();
        Checks.due("drift(0, 0, 0), no LIVES", none.drift(0, 0, 0), BAD);
        Checks.due("back(2), no IMAGES", none.back(2), BAD);
        Checks.due("swap(61, 0), nobody", none.swap(61, 0), BAD);
        Checks.due("runs(61, 3), nobody", none.runs(61, 3), BAD);
        Checks.due("wet(0, 0), nobody", none.wet(0, 0), BAD);
        Checks.due("ask(0, 0), nobody", none.ask(0, 0), BAD);
        Checks.due("lay(4, -1, 0), nothing", none.lay(4, -1, 0), BAD);
        Checks.due("read(0, 0, -1, 21), nothing", none.read(0, 0, -1, 21), BAD);
        Checks.due("read(0, 3, -1, 1), nothing", none.read(0, 3, -1, 1), BAD);
        Checks.due("sheet(4, 0, -1)", none.sheet(4, 0, -1), BAD);
        Checks.due("sheet(0, 3, -1)", none.sheet(0, 3, -1), BAD);
        SmokeSeats full = Evenings.of(1, 1);
        for (int k = 0; k < 160; k++) {
            full.feed(' ');
        }
        for (int k = 0; k < 6; k++) {
            full.see(0, 0, 0, 1);
        }
        Checks.due("feed(128), 160 bytes", full.feed(128), BAD);
        Checks.due("see(1, 0, 0, 0), six are SEEN", full.see(1, 0, 0, 0), BAD);
        Checks.due("steps(31) at 999", Evenings.later(full, 999).steps(31), BAD);
        Checks.due("froms(1, 1), there are none", full.froms(1, 1), BAD);
        Checks.due("froms(0, 2), there are none", full.froms(0, 2), BAD);
        Checks.due("cheap(0, 1, 999), by none", full.cheap(0, 1, 999), BAD);
        Checks.due("need(1, 0, 999), by none", full.need(1, 0, 999), BAD);
        Checks.due("fan(0, 0, 2), by none", full.fan(0, 0, 2), BAD);
        // at 999 a pair is asked of the machine first
        Checks.due("read(0, 0, 0, 1) at 999, nothing", full.read(0, 0, 0, 1), 0);
        Checks.due("torn()", full.torn(), 1);
    }

    /** A call that may change something: of its numbers base[which] is tried from least to most. */
    private static void change(int promise, String words, Call call, int which, int least, int most, int... base) {
        Checks.sentence(promise, words);
        for (int no : new int[] {least - 1, most + 1, LEAST, MOST}) {
            refused(call, BAD, which, no, base);
        }
        taken("the least", call, with(base, which, least));
        taken("the greatest", call, with(base, which, most));
    }

    /** A call that only asks. */
    private static void ask(int promise, String words, Call call, int which, int least, int most, int... base) {
        change(promise, words, call, which, least, most, base);
        for (int v : new int[] {least, most}) {
            int[] a = with(base, which, v);
            BUSY.unchangedBy("the call of " + Arrays.toString(a), x -> call.on(x, a));
        }
    }

    private static void taken(String name, Call call, int[] a) {
        long answer = call.on(Evenings.busy(), a);
        Checks.due(name + Arrays.toString(a) + " answers BAD", answer == BAD ? 1 : 0, 0);
    }

    private static void refused(Call call, long want, int which, int v, int... base) {
        int[] a = with(base, which, v);
        String name = "the call of " + Arrays.toString(a);
        BUSY.unchangedBy(name, x -> Checks.due(name, call.on(x, a), want));
    }

    private static int[] with(int[] base, int which, int v) {
        int[] a = base.clone();
        a[which] = v;
        return a;
    }
}
