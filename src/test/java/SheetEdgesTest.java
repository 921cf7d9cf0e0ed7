/** The edges of promises 36 to 42: images, sheets, what is read of them, how many of each there are. */
public final class SheetEdgesTest {
    private static final int BAD = Checks.BAD, STATE = Checks.STATE, NONE = Checks.NONE;
    private static final int LEAST = Checks.LEAST, MOST = Checks.MOST;

    public static void main(String[] args) {
        imagesAreKept();
        imageHoldsAllBut();
        imageIsOfItsTime();
        allIsAsTheImage();
        noImage();
        newRows();
        rowsOfNoSize();
        rowsApart();
        lowestBitsOfBytes();
        lowestBitsOfShorts();
        allBitsOfInts();
        layFaults();
        readPairs();
        readAsBySeat();
        readTimes();
        readFromAnywhere();
        readAsOfALane();
        readIsRefused();
        readAtTheLastStep();
        readFirstMet();
        readChangesNothing();
        tornByTheLatest();
        counts();
        Checks.finish();
    }

    private static void due(String call, long got, long want) {
        Checks.due(call, got, want);
    }

    private static SmokeSeats told(String text) {
        return Checks.told(text);
    }

    // ---- promise 36

    private static void imagesAreKept() {
        Checks.sentence(36, "whether there was one (1, 0). BAD");
        SmokeSeats x = new SmokeSeats();
        for (int k = 0; k <= 1; k++) {
            due("keep(" + k + ") of a new object", x.keep(k), 0);
            due("IMAGES", x.count(1), k + 1);
            due("keep(" + k + ") again", x.keep(k), 1);
            due("IMAGES, still", x.count(1), k + 1);
        }
        for (int k : new int[] {2, -1, LEAST, MOST}) {
            due("keep(" + k + ")", x.keep(k), BAD);
        }
        due("IMAGES at last", x.count(1), 2);
        x = new SmokeSeats();
        due("keep(1) alone", x.keep(1), 0);
        due("back(0), there is none", x.back(0), STATE);
        due("keep(0) behind it", x.keep(0), 0);
    }

    private static void imageHoldsAllBut() {
        Checks.sentence(36, "IMAGE k (0, 1) is all but THE TAPE, SHEETS (what was SEEN, too)");
        for (int k = 0; k <= 1; k++) {
            int image = k;
            // all but THE TAPE and SHEETS is as it was; those two are left as they are at back()
            Probe kept = new Probe(() -> keptAndBack(image, false));
            kept.unchangedBy("what is done between keep() and back()", x -> {
                x.keep(image);
                stir(x);
                x.back(image);
            });
        }
        SmokeSeats x = Evenings.busy();
        x.keep(0);
        x.end(3);
        x.sheet(0, 2, 40);
        x.sheet(3, 0, 2);
        x.back(0);
        due("bytes on THE TAPE", x.count(2), 3);
        due("CELLS of SHEET 0", x.count(3), 40);
        due("lay() on SHEET 3", x.lay(3, 1, 1), 1);
        due("SEEN", x.count(0), Evenings.SEEN_OF_BUSY);
        // what fault() and torn() answer is of the latest text() and read()
        x = Evenings.busy();
        x.keep(0);
        x.read(3, 0, 0, 1);
        x.back(0);
        due("torn()", x.torn(), 1);
    }

    /** A busy room that was kept as IMAGE k and came back. */
    private static SmokeSeats keptAndBack(int k, boolean isStirred) {
        SmokeSeats x = Evenings.busy();
        x.keep(k);
        if (isStirred) {
            stir(x);
        }
        x.back(k);
        return x;
    }

    /** Changes all that an image holds. */
    private static void stir(SmokeSeats x) {
        for (int what = 0; what <= 3; what++) {
            x.alter(0, what, 2);
            x.alter(2, what, 3);
        }
        for (int i = 0; i <= 3; i++) {
            x.seat(i, 0, 30 + i);
            x.seat(i, 1, 8 - i);
        }
        for (int k = 0; k <= 5; k++) {
            x.blow(k, (k + 2) % 5);
        }
        for (int y = 0; y <= 3; y++) {
            x.price(y, 8 - y);
        }
        x.steps(7);
        x.open();
        x.steps(2);
        x.forget(0);
        x.see(3, 2, 1, 9);
        x.see(3, 1, 2, 8);
    }

    private static void imageIsOfItsTime() {
        Checks.sentence(36, "IMAGE k (0, 1) is all");
        // a later keep() is in place of the earlier one; the other is not touched
        SmokeSeats x = told("plain 0 1 99;sitter 0 1;");
        x.keep(0);
        x.steps(5);
        x.keep(1);
        x.steps(5);
        x.keep(1);
        x.steps(5);
        due("back(0)", x.back(0), 0);
        due("back(1)", x.back(1), 10);
        due("has(0, 0)", x.has(0, 0), 10);
        x.steps(1);
        due("back(1) again", x.back(1), 10);
        due("IMAGES", x.count(1), 2);
        // what changes behind keep() or back() does not change it
        x.back(0);
        x.see(0, 0, 0, 0);
        x.price(0, 9);
        x.back(0);
        due("SEEN", x.count(0), 0);
        due("price(0, 0)", x.price(0, 0), 0);
        // no LIVES, nobody is an image too; so is STEP 999
        x = new SmokeSeats();
        x.keep(0);
        Evenings.later(x, 999);
        x.keep(1);
        due("back(0), no LIVES", x.back(0), 0);
        due("back(1), STEP 999", x.back(1), 999);
        due("steps(1) at 999", x.steps(1), Checks.FULL);
    }

    // ---- promise 37

    private static void allIsAsTheImage() {
        Checks.sentence(37, "All is as IMAGE k: STEP");
        for (int k = 0; k <= 1; k++) {
            int image = k;
            Probe kept = new Probe(() -> keptAndBack(image, false));
            // the same behind other changes, and twice
            kept.unchangedBy("stir() and back()", x -> {
                stir(x);
                x.back(image);
            });
            kept.unchangedBy("back() twice", x -> {
                x.back(image);
                x.back(image);
            });
        }
        SmokeSeats x = keptAndBack(1, true);
        SmokeSeats y = keptAndBack(1, false);
        due("STEP", x.rule(2), y.rule(2));
        due("back(1)", x.back(1), y.rule(2));
        // what is IN the last CELL of the last LIFE
        x = told("plain 43 1 1;plain 43 2 2;plain 43 3 3;");
        x.steps(1);
        x.keep(0);
        x.open();
        x.back(0);
        for (int l = 0; l < 3; l++) {
            due("in(43, " + l + ")", x.in(43, l), l + 1);
        }
        due("runs(1, 2)", x.runs(1, 2), 6);
        // each number of each of the six SEEN
        x = told("plain 0 2 9;plain 1 1 9;sitter 1 1;sitter 0 2;");
        int[] so = {1, 0, 3, 6};
        int[][] others = {{0, 0, 3, 6}, {1, 1, 3, 6}, {1, 0, 2, 6}, {1, 0, 3, 5}};
        for (int at = 0; at < 6; at++) {
            for (int[] other : others) {
                x.forget(0);
                for (int k = 0; k < 6; k++) {
                    x.see(so[0], so[1], so[2], so[3]);
                }
                x.keep(0);
                x.forget(0);
                for (int k = 0; k < 6; k++) {
                    int[] s = k == at ? other : so;
                    x.see(s[0], s[1], s[2], s[3]);
                }
                due("kinds(0), the " + at + "-th is not so", x.kinds(0), 0);
                due("back(0)", x.back(0), 0);
                due("kinds(0) by the six", x.kinds(0), 15);
            }
        }
        // six SEEN come back, and none
        x = Evenings.of(1, 1);
        x.keep(0);
        for (int k = 0; k < 6; k++) {
            x.see(0, 0, k, k);
        }
        x.keep(1);
        x.back(0);
        due("SEEN, none", x.count(0), 0);
        x.back(1);
        due("SEEN, six", x.count(0), 6);
        due("see() of the 7th", x.see(0, 0, 0, 0), Checks.FULL);
    }

    private static void noImage() {
        Checks.sentence(37, "BAD; STATE: there is none");
        SmokeSeats x = Evenings.of(1, 1);
        due("back(0)", x.back(0), STATE);
        due("back(1)", x.back(1), STATE);
        for (int k : new int[] {2, -1, LEAST, MOST}) {
            due("back(" + k + "), BAD is the first that fits", x.back(k), BAD);
        }
        Probe none = new Probe(() -> {
            SmokeSeats s = Evenings.of(3, 4);
            s.steps(5);
            s.see(0, 0, 1, 1);
            return s;
        });
        none.unchangedBy("back(0) of none", s -> due("back(0)", s.back(0), STATE));
        none.unchangedBy("back(1) of none", s -> due("back(1)", s.back(1), STATE));
        x.keep(0);
        due("text() of nothing", x.text(), 0);
        due("back(0), gone by a text", x.back(0), STATE);
        x.keep(0);
        due("text() of a FAULT", Checks.tell(x, "!"), -10);
        due("back(0), a text that is refused", x.back(0), 0);
    }

    // ---- promise 38

    private static void newRows() {
        Checks.sentence(38, "A SHEET is a new row of CELLS 0: 1");
        for (int k = 0; k <= 3; k++) {
            for (int lane = 0; lane <= 2; lane++) {
                SmokeSeats x = told("sitter 43 1;sitter 43 1;");
                due("sheet(" + k + ", " + lane + ", 40)", x.sheet(k, lane, 40), 1);
                // a pair of CELLS 0: SITTER 0 is IN 0
                for (int f = 0; f <= 38; f += 19) {
                    x.seat(0, 0, 43);
                    due("read() from " + f, x.read(k, lane, f, 1), 1);
                    due("IN of SITTER 0", x.sitter(0, 0), 0);
                }
                for (int i = 0; i < 40; i++) {
                    x.lay(k, i, 1);
                }
                due("sheet() anew", x.sheet(k, lane, 40), 1);
                for (int f = 0; f <= 38; f++) {
                    x.seat(0, 0, 43);
                    due("read() from " + f + " of the new row", x.read(k, lane, f, 1), 1);
                    due("IN of SITTER 0", x.sitter(0, 0), 0);
                }
                due("IN of SITTER 1", x.sitter(1, 0), 43);
            }
        }
        Checks.sentence(0, "SHEETS 0 to 3 are rows of BYTES (lane 0), SHORTS (1), INTS (2) with 0 to 40 CELLS of their own");
        SmokeSeats x = told("sitter 0 1;");
        for (int n = 0; n <= 40; n++) {
            due("sheet(0, 1, " + n + ")", x.sheet(0, 1, n), 1);
            due("CELLS of SHEET 0", x.count(3), n);
            due("lay() at " + n, x.lay(0, n, 0), -12);
            if (n > 0) {
                due("lay() at " + (n - 1), x.lay(0, n - 1, 0), 1);
            }
        }
    }

    private static void rowsOfNoSize() {
        Checks.sentence(38, "BAD: also n above 40; -10 - 4");
        SmokeSeats x = new SmokeSeats();
        for (int n : new int[] {41, 255, 256, MOST}) {
            due("sheet(0, 0, " + n + ")", x.sheet(0, 0, n), BAD);
        }
        for (int n : new int[] {-1, -40, LEAST}) {
            due("sheet(0, 0, " + n + ")", x.sheet(0, 0, n), -14);
        }
        due("CELLS of SHEET 0, nothing still", x.count(3), NONE);
        for (int no : new int[] {-1, LEAST, MOST}) {
            due("sheet(" + no + ", 0, 1)", x.sheet(no, 0, 1), BAD);
            due("sheet(0, " + no + ", 1)", x.sheet(0, no, 1), BAD);
            due("sheet(" + no + ", 0, -1), BAD is the first that fits", x.sheet(no, 0, -1), BAD);
            due("sheet(0, " + no + ", -1), BAD is the first that fits", x.sheet(0, no, -1), BAD);
        }
        due("sheet(4, 0, 1)", x.sheet(4, 0, 1), BAD);
        due("sheet(0, 3, 1)", x.sheet(0, 3, 1), BAD);
        due("sheet(4, 0, -1), BAD is the first that fits", x.sheet(4, 0, -1), BAD);
        due("sheet(0, 3, -1), BAD is the first that fits", x.sheet(0, 3, -1), BAD);
        Checks.sentence(0, "4 SIZE (below 0)");
        due("sheet(3, 2, -1)", x.sheet(3, 2, -1), -14);
        due("torn(), which is of read() alone", x.torn(), 0);
        due("lay(3, 0, 0), nothing still", x.lay(3, 0, 0), -11);
    }

    private static void rowsApart() {
        Checks.sentence(0, "with 0 to 40 CELLS of their own");
        SmokeSeats x = told("sitter 0 1;sitter 0 1;sitter 0 1;sitter 0 1;");
        for (int k = 0; k <= 3; k++) {
            Evenings.lay(x, k, k % 3, k, 10 + k);
        }
        for (int k = 0; k <= 3; k++) {
            due("read() of SHEET " + k, x.read(k, k % 3, 0, 1), 1);
            due("IN of SITTER " + k, x.sitter(k, 0), 10 + k);
        }
        x.sheet(1, 0, 9);
        due("read() of SHEET 2 behind a new SHEET 1", x.read(2, 2, 0, 1), 1);
        due("CELLS of SHEET 0", x.count(3), 2);
    }

    // ---- promise 39

    /** A pair as it is laid, and which of four SITTERS sits IN which CELL by it then; -1: it is refused by seat(). */
    private static void laid(int lane, int sitter, int cell, int wantSitter, int wantCell) {
        SmokeSeats x = told("sitter 22 1;sitter 22 1;sitter 22 1;sitter 22 1;");
        x.sheet(1, lane, 2);
        due("lay() of " + sitter, x.lay(1, 0, sitter), 1);
        due("lay() of " + cell, x.lay(1, 1, cell), 1);
        String name = "lane " + lane + " of " + sitter + ", " + cell;
        boolean isTaken = wantSitter >= 0;
        due("read() of " + name, x.read(1, lane, 0, 1), isTaken ? 1 : -20);
        for (int i = 0; i <= 3; i++) {
            due("IN of SITTER " + i + ", " + name, x.sitter(i, 0), i == wantSitter ? wantCell : 22);
        }
    }

    private static void lowestBitsOfBytes() {
        Checks.sentence(39, "CELL i of a SHEET becomes v (its lowest bits): 1");
        laid(0, 3, 43, 3, 43);
        laid(0, 256, 256 + 43, 0, 43);
        laid(0, -256 + 2, -256 + 43, 2, 43);
        laid(0, LEAST, LEAST + 31, 0, 31);
        laid(0, 65536 + 1, 0x7fffff00 + 13, 1, 13);
        laid(0, 0x100, 0xff00, 0, 0);
        // a byte goes from -128 to 127: 255 is -1, 128 is -128
        laid(0, 255, 0, -1, 0);
        laid(0, 0, 255, -1, 0);
        laid(0, 0, 128, -1, 0);
        laid(0, 0, MOST, -1, 0);
        laid(0, MOST, 0, -1, 0);
        laid(0, 4, 0, -1, 0);
        laid(0, 0, 44, -1, 0);
        laid(0, 0, 256 + 44, -1, 0);
    }

    private static void lowestBitsOfShorts() {
        Checks.sentence(39, "CELL i of a SHEET becomes v (its lowest bits): 1");
        laid(1, 3, 43, 3, 43);
        laid(1, 65536, 65536 + 43, 0, 43);
        laid(1, -65536 + 2, -65536 + 43, 2, 43);
        laid(1, LEAST, LEAST + 31, 0, 31);
        laid(1, 0x10000 + 1, 0x7fff0000 + 13, 1, 13);
        // more than a byte is kept, and a short goes from -32768 to 32767
        laid(1, 256, 0, -1, 0);
        laid(1, 0, 256 + 43, -1, 0);
        laid(1, 0, 65535, -1, 0);
        laid(1, 65535, 0, -1, 0);
        laid(1, 0, 32768, -1, 0);
        laid(1, 0, MOST, -1, 0);
        laid(1, 0, 32767, -1, 0);
    }

    private static void allBitsOfInts() {
        Checks.sentence(39, "CELL i of a SHEET becomes v (its lowest bits): 1");
        laid(2, 3, 43, 3, 43);
        laid(2, 256, 0, -1, 0);
        laid(2, 65536, 0, -1, 0);
        laid(2, 0, 65536 + 43, -1, 0);
        laid(2, 0, 1 << 30, -1, 0);
        laid(2, LEAST, 0, -1, 0);
        laid(2, 0, LEAST, -1, 0);
        laid(2, MOST, 0, -1, 0);
        laid(2, 0, MOST, -1, 0);
        laid(2, -1, 0, -1, 0);
        laid(2, 0, -1, -1, 0);
    }

    private static void layFaults() {
        Checks.sentence(39, "BAD: k; -10 less the FAULT: NULL, INDEX");
        SmokeSeats x = told("sitter 0 1;");
        for (int lane = 0; lane <= 2; lane++) {
            x.sheet(lane, lane, 40);
            due("lay() at 0", x.lay(lane, 0, MOST), 1);
            due("lay() at 39", x.lay(lane, 39, LEAST), 1);
            for (int i : new int[] {40, 41, -1, LEAST, MOST}) {
                due("lay() at " + i, x.lay(lane, i, 0), -12);
            }
        }
        Checks.sentence(0, "A FAULT is what the machine finds: 1 NULL (nothing), 2 INDEX");
        for (int i : new int[] {0, 40, -1, LEAST, MOST}) {
            due("lay() at " + i + " of nothing", x.lay(3, i, 0), -11);
        }
        x.sheet(3, 0, 0);
        due("lay() at 0 of no CELLS", x.lay(3, 0, 0), -12);
        for (int k : new int[] {4, -1, LEAST, MOST}) {
            due("lay() on SHEET " + k + ", BAD is the first that fits", x.lay(k, -1, 0), BAD);
        }
        due("torn(), which is of read() alone", x.torn(), 0);
    }

    // ---- promise 40

    private static SmokeSeats pairs(int lane, int... cells) {
        SmokeSeats x = told("plain 11 4 99;sitter 0 2;sitter 0 2;");
        Evenings.lay(x, 2, lane, cells);
        return x;
    }

    private static void readPairs() {
        Checks.sentence(40, "a SITTER, a CELL are read of a SHEET taken as of a lane, two CELLS each from CELL f on,"
            + " one behind another");
        for (int lane = 0; lane <= 2; lane++) {
            SmokeSeats x = pairs(lane, 0, 11, 1, 12, 0, 13);
            due("read(2, " + lane + ", 0, 2)", x.read(2, lane, 0, 2), 2);
            due("IN of 0", x.sitter(0, 0), 11);
            due("IN of 1", x.sitter(1, 0), 12);
            due("STEP", x.rule(2), 2);
            due("read(2, " + lane + ", 4, 1)", x.read(2, lane, 4, 1), 1);
            due("IN of 0 then", x.sitter(0, 0), 13);
            Checks.sentence(40, "and a STEP goes behind each: how many came");
            due("STEP then", x.rule(2), 3);
            // SITTER 0 was at the table for two STEPS
            due("has(0, 0)", x.has(0, 0), 4);
            due("torn()", x.torn(), 0);
        }
        // the last CELL and the last SITTER
        SmokeSeats x = told("sitter 0 1;sitter 0 1;sitter 0 1;sitter 0 1;");
        Evenings.lay(x, 0, 0, 3, 43);
        due("read() of 3, 43", x.read(0, 0, 0, 1), 1);
        due("IN of 3", x.sitter(3, 0), 43);
    }

    private static void readAsBySeat() {
        Checks.sentence(40, "he is IN it then, as by seat()");
        SmokeSeats x = pairs(0, 0, 43, 0, 11, 0, 43);
        due("read()", x.read(2, 0, 0, 3), 3);
        due("IN", x.sitter(0, 0), 43);
        due("SLEEVE", x.sitter(0, 1), 2);
        due("HAD in the one STEP at the table", x.has(0, 0), 2);
        for (int cell = -2; cell <= 60; cell++) {
            x = pairs(0, 1, cell);
            boolean isCell = Evenings.isCell(cell);
            due("read() of CELL " + cell, x.read(2, 0, 0, 1), isCell ? 1 : -20);
            due("IN of 1", x.sitter(1, 0), isCell ? cell : 0);
        }
        for (int i = -2; i <= 5; i++) {
            x = pairs(1, i, 21);
            due("read() of SITTER " + i, x.read(2, 1, 0, 1), i == 0 || i == 1 ? 1 : -20);
        }
    }

    private static void readTimes() {
        Checks.sentence(40, "n (0 to 20) times");
        SmokeSeats x = told("sitter 3 0;");
        x.sheet(2, 2, 40);
        due("read() of 20 pairs", x.read(2, 2, 0, 20), 20);
        due("STEP", x.rule(2), 20);
        due("torn()", x.torn(), 0);
        due("read() of 21", x.read(2, 2, 0, 21), BAD);
        due("read() of -1", x.read(2, 2, 0, -1), BAD);
        due("STEP, still", x.rule(2), 20);
        due("read() of 0 pairs", x.read(2, 2, 0, 0), 0);
        due("STEP behind none", x.rule(2), 20);
        // of none nothing is read, so that the machine finds nothing
        due("read() of 0 pairs of nothing", x.read(0, 2, 0, 0), 0);
        due("torn()", x.torn(), 0);
        due("read() of 0 pairs as of another lane", x.read(2, 0, 0, 0), 0);
        due("torn()", x.torn(), 0);
        due("read() of 0 pairs from behind the end", x.read(2, 2, 99, 0), 0);
        due("torn()", x.torn(), 0);
        due("read() of 0 pairs at 999", Evenings.later(x, 979).read(2, 2, 0, 0), 0);
        due("STEP at last", x.rule(2), 999);
    }

    private static void readFromAnywhere() {
        Checks.sentence(40, "What the machine refuses: those that were whole ahead came (its FAULT is asked by torn())");
        SmokeSeats x = told("sitter 3 0;");
        x.sheet(2, 1, 40);
        // from, of how many, how many come, the FAULT
        int[][] reads = {{0, 20, 20, 0}, {1, 20, 19, 2}, {2, 20, 19, 2}, {2, 19, 19, 0}, {38, 1, 1, 0}, {38, 2, 1, 2},
            {39, 1, 0, 2}, {39, 20, 0, 2}, {40, 1, 0, 2}, {41, 1, 0, 2}, {-1, 1, 0, 2}, {-2, 2, 0, 2}, {-1, 20, 0, 2},
            {LEAST, 1, 0, 2}, {LEAST, 20, 0, 2}, {MOST, 1, 0, 2}, {MOST - 1, 20, 0, 2}, {MOST, 20, 0, 2}};
        int step = 0;
        for (int[] r : reads) {
            due("read(2, 1, " + r[0] + ", " + r[1] + ")", x.read(2, 1, r[0], r[1]), r[2]);
            due("torn()", x.torn(), r[3]);
            step += r[2];
            due("STEP", x.rule(2), step);
        }
        x.sheet(2, 1, 0);
        due("read() of no CELLS", x.read(2, 1, 0, 1), 0);
        due("torn()", x.torn(), 2);
        x.sheet(2, 1, 1);
        due("read() of one CELL", x.read(2, 1, 0, 1), 0);
        due("torn()", x.torn(), 2);
        x.sheet(2, 1, 2);
        due("read() of two CELLS", x.read(2, 1, 0, 1), 1);
        due("torn()", x.torn(), 0);
        x.sheet(2, 1, 3);
        due("read() of three CELLS", x.read(2, 1, 0, 2), 1);
        due("torn()", x.torn(), 2);
        // half a pair is not looked at: no SITTER 9 is refused
        x = pairs(0, 0, 11, 9);
        due("read() of a pair and a half", x.read(2, 0, 0, 2), 1);
        due("IN", x.sitter(0, 0), 11);
        due("torn()", x.torn(), 2);
    }

    private static void readAsOfALane() {
        Checks.sentence(0, "A FAULT is what the machine finds: 1 NULL (nothing), 2 INDEX, 3 CAST (another lane)");
        SmokeSeats x = told("sitter 3 0;");
        for (int is = 0; is <= 2; is++) {
            x.sheet(0, is, 4);
            for (int as = 0; as <= 2; as++) {
                due("read() of lane " + is + " as of " + as, x.read(0, as, 0, 2), is == as ? 2 : 0);
                due("torn()", x.torn(), is == as ? 0 : 3);
                // the CAST comes ahead of the INDEX
                due("read() of lane " + is + " as of " + as + " from 9", x.read(0, as, 9, 1), 0);
                due("torn()", x.torn(), is == as ? 2 : 3);
                // and nothing is of each lane
                due("read() of nothing as of " + as, x.read(1, as, 9, 1), 0);
                due("torn()", x.torn(), 1);
            }
        }
        due("STEP", x.rule(2), 6);
        x.sheet(0, 0, 0);
        due("read() of no CELLS as of another lane", x.read(0, 1, 0, 1), 0);
        due("torn()", x.torn(), 3);
    }

    private static void readIsRefused() {
        Checks.sentence(40, "BAD: k, lane, n; -20 less i: the i-th, whole, is refused by seat()");
        int[][] no = {{2, 11}, {-1, 11}, {127, 11}, {0, 44}, {0, -1}, {0, 4}, {2, 44}};
        for (int at = 0; at < 20; at++) {
            for (int[] pair : no) {
                int[] cells = new int[40];
                cells[2 * at] = pair[0];
                cells[2 * at + 1] = pair[1];
                SmokeSeats x = pairs(0, cells);
                due("read(), the pair " + at + " is none", x.read(2, 0, 0, 20), -20 - at);
                due("STEP", x.rule(2), 0);
                due("read() up to it", x.read(2, 0, 0, at), at);
                due("STEP up to it", x.rule(2), at);
            }
        }
        SmokeSeats x = pairs(0, 0, 11, 0, 12);
        due("read() of SHEET 4", x.read(4, 0, 0, 1), BAD);
        due("read() of SHEET -1", x.read(-1, 0, 0, 1), BAD);
        due("read() as of lane 3", x.read(2, 3, 0, 1), BAD);
        due("read() as of lane -1", x.read(2, -1, 0, 1), BAD);
        due("read(), nobody", nobody().read(0, 0, 0, 1), -20);
    }

    private static SmokeSeats nobody() {
        SmokeSeats x = new SmokeSeats();
        x.sheet(0, 0, 2);
        return x;
    }

    private static void readAtTheLastStep() {
        Checks.sentence(40, "or STEP is 999: then none came");
        for (int step = 978; step <= 999; step++) {
            SmokeSeats x = Evenings.at(step, "sitter 43 0;");
            x.sheet(0, 0, 40);
            int fit = 999 - step;
            due("read() of 20 at " + step, x.read(0, 0, 0, 20), fit >= 20 ? 20 : -20 - fit);
            due("STEP", x.rule(2), fit >= 20 ? step + 20 : step);
            due("IN", x.sitter(0, 0), fit >= 20 ? 0 : 43);
            if (fit < 20) {
                due("read() of as many as fit", x.read(0, 0, 0, fit), fit);
                due("STEP", x.rule(2), 999);
            }
        }
    }

    private static void readFirstMet() {
        Checks.sentence(40, "the first met");
        // what the machine refuses ahead of one that is refused, and the other way round
        SmokeSeats x = pairs(0, 0, 11, 1, 12, 5);
        due("read() from 0", x.read(2, 0, 0, 20), 2);
        due("torn()", x.torn(), 2);
        x = pairs(0, 0, 11, 5, 12, 5);
        due("read() from 0, SITTER 5", x.read(2, 0, 0, 20), -21);
        due("torn()", x.torn(), 0);
        due("read() from -1, SITTER 5 behind it", x.read(2, 0, -1, 20), 0);
        due("torn()", x.torn(), 2);
        due("read() as of another lane", x.read(2, 1, 0, 20), 0);
        due("torn()", x.torn(), 3);
        // two that are refused: the first
        x = pairs(0, 0, 11, 5, 12, 0, 44);
        due("read() of two that are refused", x.read(2, 0, 0, 3), -21);
        due("read() of the later one", x.read(2, 0, 4, 1), -20);
        // at 999 what is not whole is of the machine
        x = Evenings.at(999, "sitter 43 0;");
        x.sheet(0, 0, 3);
        due("read() at 999", x.read(0, 0, 0, 1), -20);
        due("read() at 999, half a pair", x.read(0, 0, 2, 1), 0);
        due("torn()", x.torn(), 2);
        due("read() at 999, nothing", x.read(1, 0, 0, 1), 0);
        due("torn()", x.torn(), 1);
        // STEP 998: one more fits; the next is refused by seat() or by STEP 999 alike
        x = Evenings.at(998, "sitter 43 0;");
        Evenings.lay(x, 0, 0, 0, 0, 9, 9);
        due("read() of 2 at 998", x.read(0, 0, 0, 2), -21);
        due("STEP", x.rule(2), 998);
        due("read() of 1 at 998", x.read(0, 0, 0, 1), 1);
        due("STEP", x.rule(2), 999);
    }

    private static void readChangesNothing() {
        Checks.sentence(40, "then none came");
        Probe busy = new Probe(() -> {
            SmokeSeats x = Evenings.busy();
            Evenings.lay(x, 1, 1, 3, 1, 0, 2, 4, 0);
            return x;
        });
        busy.unchangedBy("read() of a SITTER 4 behind two others", x -> due("read()", x.read(1, 1, 0, 3), -22));
        // busy() has found an INDEX latest, so that torn() answers 2 in any case
        busy.unchangedBy("read() from behind the end", x -> due("read()", x.read(1, 1, 5, 3), 0));
        busy.unchangedBy("read() of none, and of an INDEX", x -> {
            due("read()", x.read(1, 1, 0, 0), 0);
            due("read()", x.read(1, 1, 6, 1), 0);
        });
        Probe late = new Probe(() -> Evenings.later(Evenings.busy(), 989));
        late.unchangedBy("read() of two at 998", x -> due("read()", x.read(0, 0, 0, 2), -21));
    }

    // ---- promise 41

    private static void tornByTheLatest() {
        Checks.sentence(41, "The FAULT of the latest read() that came to an end; 0");
        SmokeSeats x = pairs(0, 0, 11, 9, 9);
        due("torn() of none", x.torn(), 0);
        x.read(3, 0, 0, 1);
        due("torn() of nothing", x.torn(), 1);
        x.read(2, 0, 3, 1);
        due("torn() of half a pair", x.torn(), 2);
        x.read(2, 2, 0, 1);
        due("torn() of another lane", x.torn(), 3);
        due("torn() again", x.torn(), 3);
        // those did not come to an end
        due("read(), refused", x.read(2, 0, 0, 2), -21);
        due("torn() behind one that is refused", x.torn(), 3);
        int[][] no = {{4, 0, 0, 1}, {-1, 0, 0, 1}, {2, 3, 0, 1}, {2, -1, 0, 1}, {2, 0, 0, 21}, {2, 0, 0, -1}};
        for (int[] n : no) {
            due("read(), BAD", x.read(n[0], n[1], n[2], n[3]), BAD);
            due("torn() behind one that is BAD", x.torn(), 3);
        }
        // nor are these read()
        x.lay(3, 0, 0);
        x.lay(2, 99, 0);
        x.sheet(1, 0, -1);
        x.sheet(1, 0, 1);
        x.keep(0);
        x.back(0);
        x.text();
        due("torn() behind other calls", x.torn(), 3);
        x.read(2, 0, 0, 0);
        due("torn() of a whole read() of none", x.torn(), 0);
        x = pairs(0, 0, 11, 1, 11);
        x.read(2, 1, 0, 1);
        x.read(2, 0, 0, 2);
        due("torn() of a whole read()", x.torn(), 0);
    }

    // ---- promise 42

    private static void counts() {
        Checks.sentence(42, "0 SEEN, 1 IMAGES, 2 bytes on THE TAPE, 3 CELLS of SHEET 0 (NONE: nothing), 4 all that is LEFT,"
            + " 5 PRICES of all SITTERS");
        SmokeSeats x = new SmokeSeats();
        int[] none = {0, 0, 0, NONE, 0, 0};
        for (int what = 0; what < none.length; what++) {
            due("count(" + what + ") of a new object", x.count(what), none[what]);
        }
        x = told("plain 0 9 99;plain 0 9 99;plain 0 9 99;sitter 0 0;sitter 10 0;sitter 40 0;sitter 30 0;price 0 9;");
        for (int k = 0; k < 6; k++) {
            x.see(0, 0, 0, 0);
        }
        x.keep(0);
        x.keep(1);
        Checks.feed(x, " ".repeat(160));
        x.sheet(0, 0, 40);
        int[] most = {6, 2, 160, 40, 297, 36};
        for (int what = 0; what < most.length; what++) {
            due("count(" + what + ") of all there can be", x.count(what), most[what]);
        }
        x.sheet(0, 1, 0);
        due("count(3) of no CELLS", x.count(3), 0);
        x.steps(1);
        due("count(4) behind a STEP", x.count(4), 270);
        x.seat(0, 0, 1);
        x.price(1, 4);
        due("count(5), one in another row", x.count(5), 31);
        x = new SmokeSeats();
        x.sheet(1, 0, 9);
        due("count(3), SHEET 1 alone", x.count(3), NONE);
        x.keep(1);
        due("count(1), IMAGE 1 alone", x.count(1), 1);
        Checks.sentence(42, "BAD");
        for (int what : new int[] {6, -1, LEAST, MOST}) {
            due("count(" + what + ")", x.count(what), BAD);
        }
    }
}
