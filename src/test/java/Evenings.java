/** Rooms in which the tests of edges begin. */
final class Evenings {
    static final int TAPE_OF_BUSY = 21, SEEN_OF_BUSY = 4;

    private Evenings() {
    }

    /** Something of all that an object can hold; two images that are not as it is now. */
    static SmokeSeats busy() {
        SmokeSeats x = Checks.told("plain 11 4 50;heavy 22 9 99;happy 33 3 30;"
            + "sitter 21 2;sitter 11 1;sitter 32 9;sitter 0 3;");
        int[] ways = {1, 3, 2, 0, 4, 1};
        int[] prices = {7, 5, 0, 2};
        for (int k = 0; k < ways.length; k++) {
            x.blow(k, ways[k]);
        }
        for (int y = 0; y < prices.length; y++) {
            x.price(y, prices[y]);
        }
        Checks.tell(x, "air 6");
        x.steps(4);
        seeTruth(x, 0, 0, 2);
        seeTruth(x, 2, 1, 3);
        x.keep(0);
        x.steps(3);
        x.open();
        x.alter(0, 3, 40);
        seeTruth(x, 1, 0, 1);
        x.keep(1);
        x.steps(2);
        x.forget(1);
        seeTruth(x, 2, 1, 2);
        seeTruth(x, 1, 2, 0);
        x.see(3, 0, 4, 7);
        lay(x, 0, 0, 1, 2, 3, 0, 1);
        lay(x, 1, 1, 3, 1, 0, 2);
        lay(x, 2, 2, 2, 2, 1);
        x.read(0, 0, 4, 1);
        Checks.feed(x, "thin 3 2 1;price 2 6;");
        return x;
    }

    private static void seeTruth(SmokeSeats x, int i, int l, int n) {
        x.see(i, l, n, x.ahead(i, l, n));
    }

    /** A SHEET of just these CELLS. */
    static void lay(SmokeSeats x, int k, int lane, int... cells) {
        x.sheet(k, lane, cells.length);
        for (int c = 0; c < cells.length; c++) {
            x.lay(k, c, cells[c]);
        }
    }

    /** So many LIVES and SITTERS, and nothing else. */
    static SmokeSeats of(int lives, int sitters) {
        return Checks.told("plain 11 4 50;".repeat(lives) + "sitter 11 2;".repeat(sitters));
    }

    static SmokeSeats at(int step, String text) {
        return later(Checks.told(text), step);
    }

    static SmokeSeats later(SmokeSeats x, int n) {
        for (int k = n; k > 0; k -= 30) {
            x.steps(Math.min(k, 30));
        }
        return x;
    }

    /** SITTER 0 HAS 999 of LIFE 0, and nothing is LEFT. */
    static SmokeSeats had999() {
        SmokeSeats x = Checks.told("plain 0 9 0;sitter 0 9;");
        for (int k = 0; k < 11; k++) {
            x.alter(0, 3, k == 10 ? 9 : 99);
            x.steps(11);
        }
        Checks.due("has(0, 0)", x.has(0, 0), 999);
        return x;
    }

    /** So much of LIFE 0 IN each CELL, by their order; its SITTERS have no sleeves yet, the airs are still. */
    static SmokeSeats filled(String sitters, int... much) {
        SmokeSeats x = Checks.told("plain 0 9 0;" + sitters);
        for (int c = 0; c < much.length; c++) {
            x.alter(0, 1, name(c));
            x.alter(0, 3, much[c]);
            x.steps((much[c] + 8) / 9);
        }
        return x;
    }

    /** The name of the c-th CELL. */
    static int name(int c) {
        return c / 4 * 10 + c % 4;
    }

    static boolean isCell(int name) {
        for (int c = 0; c < 20; c++) {
            if (name(c) == name) {
                return true;
            }
        }
        return false;
    }
}
