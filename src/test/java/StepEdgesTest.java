/** The edges of promises 12 to 21 and of A STEP: what is changed, how it drifts, evenings step by step. */
public final class StepEdgesTest {
    private static final int BAD = Checks.BAD, FULL = Checks.FULL, NONE = Checks.NONE;

    public static void main(String[] args) {
        lifeIsAltered();
        sitterIsSeated();
        airIsBlown();
        priceIsChanged();
        roomIsAired();
        paceOfWhatIsLeft();
        sleeveOfWhatIsIn();
        sittersByOrder();
        airOfTheStep();
        waysAndWalls();
        kindsMove();
        allAsItIsThen();
        stillAndStep();
        nothingIsLostOtherwise();
        stepsAreCounted();
        stepsAreFull();
        runsThen();
        runsFirst();
        aheadThen();
        wetFirst();
        overFirst();
        byStepsBehindTheLast();
        lastCall();
        Checks.finish();
    }

    private static void due(String call, long got, long want) {
        Checks.due(call, got, want);
    }

    private static SmokeSeats told(String text) {
        return Checks.told(text);
    }

    // ---- promise 12

    private static void lifeIsAltered() {
        Checks.sentence(12, "KIND, AT, PACE, LEFT (what 0 to 3) of a LIFE becomes v: what it was. BAD");
        SmokeSeats x = told("plain 0 1 0;plain 0 1 0;plain 0 1 0;");
        int[] most = {3, 43, 9, 99};
        int[] least = {0, 0, 1, 0};
        for (int l = 0; l < 3; l++) {
            for (int what = 0; what < 4; what++) {
                due("alter to the greatest", x.alter(l, what, most[what]), least[what]);
                due("life(" + l + ", " + what + ")", x.life(l, what), most[what]);
                due("alter beyond it", x.alter(l, what, most[what] + 1), BAD);
                due("life(" + l + ", " + what + "), still", x.life(l, what), most[what]);
                due("alter to the least", x.alter(l, what, least[what]), most[what]);
                due("alter below it", x.alter(l, what, least[what] - 1), BAD);
                due("life(" + l + ", " + what + "), at last", x.life(l, what), least[what]);
                due("alter to the same", x.alter(l, what, least[what]), least[what]);
            }
        }
        due("alter of LIFE 3", x.alter(3, 0, 0), BAD);
        due("alter of what 4", x.alter(0, 4, 0), BAD);
        due("alter, no LIVES", new SmokeSeats().alter(0, 0, 0), BAD);
        // what has been told stays where it is
        x = told("plain 0 9 9;");
        x.steps(1);
        x.alter(0, 1, 43);
        x.alter(0, 3, 5);
        x.steps(1);
        due("in(0, 0)", x.in(0, 0), 9);
        due("in(43, 0)", x.in(43, 0), 5);
    }

    // ---- promise 13

    private static void sitterIsSeated() {
        Checks.sentence(13, "IN, SLEEVE (what 0, 1) of a SITTER becomes v: what it was. BAD");
        SmokeSeats x = told("sitter 0 0;sitter 0 0;sitter 0 0;sitter 0 0;");
        int[] most = {43, 9};
        for (int i = 0; i < 4; i++) {
            for (int what = 0; what < 2; what++) {
                due("seat to the greatest", x.seat(i, what, most[what]), 0);
                due("sitter(" + i + ", " + what + ")", x.sitter(i, what), most[what]);
                due("seat beyond it", x.seat(i, what, most[what] + 1), BAD);
                due("sitter(" + i + ", " + what + "), still", x.sitter(i, what), most[what]);
                due("seat to the least", x.seat(i, what, 0), most[what]);
                due("seat below it", x.seat(i, what, -1), BAD);
                due("sitter(" + i + ", " + what + "), at last", x.sitter(i, what), 0);
                due("seat to the same", x.seat(i, what, 0), 0);
            }
        }
        due("seat of SITTER 4", x.seat(4, 0, 0), BAD);
        due("seat of what 2", x.seat(0, 2, 0), BAD);
        due("seat, nobody", new SmokeSeats().seat(0, 0, 0), BAD);
        // what he has, he keeps
        x = told("plain 0 9 9;sitter 0 4;");
        x.steps(1);
        x.seat(0, 0, 43);
        x.seat(0, 1, 0);
        due("has(0, 0)", x.has(0, 0), 4);
    }

    // ---- promises 14, 15

    private static void airIsBlown() {
        Checks.sentence(14, "WAY of an AIR becomes v: what it was. BAD");
        SmokeSeats x = new SmokeSeats();
        for (int k = 0; k <= 5; k++) {
            for (int v = 1; v <= 5; v++) {
                due("blow(" + k + ", " + v % 5 + ")", x.blow(k, v % 5), v - 1);
                due("air(" + k + ")", x.air(k), v % 5);
            }
            due("blow(" + k + ", 4)", x.blow(k, 4), 0);
            due("blow(" + k + ", 5)", x.blow(k, 5), BAD);
            due("blow(" + k + ", -1)", x.blow(k, -1), BAD);
            due("air(" + k + "), still", x.air(k), 4);
        }
        due("blow(6, 0)", x.blow(6, 0), BAD);
        due("blow(-1, 0)", x.blow(-1, 0), BAD);
        Checks.sentence(0, "0 still (at first), 1 x more, 2 x less, 3 y more, 4 y less");
        int[] next = {12, 22, 2, 13, 11};
        for (int way = 0; way <= 4; way++) {
            x = told("thin 12 1 1;");
            x.blow(0, way);
            x.steps(1);
            due("in(" + next[way] + ", 0) by WAY " + way, x.in(next[way], 0), 1);
        }
    }

    private static void priceIsChanged() {
        Checks.sentence(15, "PRICE of a row becomes v: what it was. BAD");
        SmokeSeats x = told("sitter 0 0;sitter 41 0;sitter 12 0;sitter 33 0;");
        for (int y = 0; y <= 3; y++) {
            for (int v = 1; v <= 10; v++) {
                due("price(" + y + ", " + v % 10 + ")", x.price(y, v % 10), v - 1);
            }
            due("price(" + y + ", 9)", x.price(y, 9), 0);
            due("price(" + y + ", 10)", x.price(y, 10), BAD);
            due("price(" + y + ", -1)", x.price(y, -1), BAD);
            due("price(" + y + ", " + (y + 1) + ") behind those", x.price(y, y + 1), 9);
        }
        due("price(4, 0)", x.price(4, 0), BAD);
        due("price(-1, 0)", x.price(-1, 0), BAD);
        for (int i = 0; i < 4; i++) {
            due("PRICE of the row of SITTER " + i, x.sitter(i, 3), i + 1);
        }
    }

    // ---- promise 16

    private static void roomIsAired() {
        Checks.sentence(16, "The room is aired: all that is IN CELLS is LOST: how much");
        due("open(), no LIVES", new SmokeSeats().open(), 0);
        SmokeSeats x = told("plain 0 9 99;heavy 43 9 30;thin 22 2 9;sitter 0 4;sitter 43 9;air 0 1;air 1 3;");
        due("open(), nothing told", x.open(), 0);
        x.steps(2);
        int[] left = {81, 12, 5};
        int[] had = {8, 18, 0};
        int[] in = {10, 0, 4};
        due("open()", x.open(), 14);
        for (int l = 0; l < 3; l++) {
            due("LEFT of " + l, x.life(l, 3), left[l]);
            due("IN CELLS of " + l, x.life(l, 4), 0);
            due("LOST of " + l, x.life(l, 5), in[l]);
            due("HAD of " + l, x.life(l, 6), had[l]);
        }
        for (int k = 0; k < 60; k++) {
            due("in(" + Evenings.name(k / 3) + ", " + k % 3 + ")", x.in(Evenings.name(k / 3), k % 3), 0);
        }
        due("STEP", x.rule(2), 2);
        due("open() again", x.open(), 0);
        due("LOST, still", x.rule(4), 14);
        x.steps(1);
        due("open() behind a STEP", x.open(), 5 + 2);
        due("LOST then", x.rule(4), 21);
    }

    // ---- A STEP

    private static void paceOfWhatIsLeft() {
        Checks.sentence(0, "of each LIFE PACE of what is LEFT (all, if that is less) comes to the CELL AT which it is told");
        int[] lefts = {0, 1, 8, 9, 10, 99};
        for (int pace = 1; pace <= 9; pace++) {
            for (int left : lefts) {
                SmokeSeats x = told("plain 0 1 0;plain 32 " + pace + " " + left + ";thin 43 9 9;");
                x.steps(1);
                due("IN behind one of PACE " + pace + ", LEFT " + left, x.in(32, 1), Math.min(pace, left));
                due("LEFT behind it", x.life(1, 3), Math.max(0, left - pace));
                due("IN of another", x.in(43, 2), 9);
                x.steps(30);
                due("IN behind 31", x.in(32, 1), Math.min(31 * pace, left));
            }
        }
    }

    private static void sleeveOfWhatIsIn() {
        Checks.sentence(0, "of LIVES by order, SLEEVE in all (all there is, if that is less)");
        for (int sleeve = 0; sleeve <= 9; sleeve++) {
            SmokeSeats x = told("plain 22 2 2;plain 22 3 3;thin 22 3 3;sitter 22 " + sleeve + ";");
            due("steps(1) by SLEEVE " + sleeve, x.steps(1), Math.min(sleeve, 8));
            due("of LIFE 0", x.has(0, 0), Math.min(sleeve, 2));
            due("of LIFE 1", x.has(0, 1), Math.max(0, Math.min(sleeve - 2, 3)));
            due("of LIFE 2", x.has(0, 2), Math.max(0, Math.min(sleeve - 5, 3)));
            due("IN CELLS", x.rule(3), 8 - Math.min(sleeve, 8));
        }
    }

    private static void sittersByOrder() {
        Checks.sentence(0, "Then each SITTER, by order, takes of what is IN his CELL");
        SmokeSeats x = told("plain 22 7 7;sitter 22 3;sitter 22 3;sitter 22 3;sitter 22 3;");
        due("steps(1)", x.steps(1), 7);
        int[] has = {3, 3, 1, 0};
        for (int i = 0; i < 4; i++) {
            due("has(" + i + ", 0)", x.has(i, 0), has[i]);
        }
        // of what is IN his CELL, and of no other
        x = told("plain 22 7 7;sitter 21 9;sitter 23 9;sitter 12 9;sitter 32 9;");
        due("steps(1) of those beside", x.steps(1), 0);
        // what has just come is taken ahead of the air
        x = told("thin 43 9 9;sitter 43 9;air 0 1;");
        due("steps(1) at the table by the window", x.steps(1), 9);
        due("LOST", x.rule(4), 0);
    }

    private static void airOfTheStep() {
        Checks.sentence(0, "Then, if the WAY of the AIR STEP modulo 6 is not still");
        int[] steps = {0, 1, 2, 3, 4, 5, 6, 7, 11, 12, 993, 997, 998};
        for (int step : steps) {
            for (int k = 0; k <= 5; k++) {
                SmokeSeats x = Evenings.at(step, "thin 20 1 0;");
                x.blow(k, 1);
                x.alter(0, 3, 1);
                x.steps(1);
                due("in(30, 0) behind STEP " + step + " by AIR " + k, x.in(30, 0), step % 6 == k ? 1 : 0);
                due("in(20, 0) behind STEP " + step + " by AIR " + k, x.in(20, 0), step % 6 == k ? 0 : 1);
            }
        }
        Checks.sentence(0, "STEP is 1 more");
        SmokeSeats x = new SmokeSeats();
        for (int step = 1; step <= 7; step++) {
            x.steps(1);
            due("STEP", x.rule(2), step);
        }
    }

    private static void waysAndWalls() {
        Checks.sentence(0, "comes to the next CELL by that WAY; it is LOST, if there is none");
        int[] dx = {0, 1, -1, 0, 0};
        int[] dy = {0, 0, 0, 1, -1};
        for (int c = 0; c < 20; c++) {
            for (int way = 1; way <= 4; way++) {
                int cell = Evenings.name(c);
                int x = cell / 10 + dx[way];
                int y = cell % 10 + dy[way];
                boolean isIn = x >= 0 && x <= 4 && y >= 0 && y <= 3;
                SmokeSeats s = told("plain " + cell + " 1 0;thin " + cell + " 5 5;");
                s.blow(0, way);
                s.steps(1);
                due("LOST from " + cell + " by WAY " + way, s.life(1, 5), isIn ? 0 : 5);
                due("IN CELLS from " + cell + " by WAY " + way, s.rule(3), isIn ? 5 : 0);
                due("IN CELLS of it from " + cell + " by WAY " + way, s.life(1, 4), isIn ? 5 : 0);
                due("LOST of the other", s.life(0, 5), 0);
                due("IN CELLS of the other", s.life(0, 4), 0);
                if (isIn) {
                    due("IN the next of " + cell + " by WAY " + way, s.in(10 * x + y, 1), 5);
                }
            }
        }
    }

    /** How much is LEFT IN a CELL of so much behind one STEP in which an air goes. */
    private static int stays(String kind, int much) {
        SmokeSeats x = told(kind + " 20 9 " + much + ";");
        x.steps(11);
        for (int k = 0; k <= 5; k++) {
            x.blow(k, 1);
        }
        x.steps(1);
        due("all of " + much, x.in(20, 0) + x.in(30, 0), much);
        return x.in(20, 0);
    }

    private static void kindsMove() {
        Checks.sentence(0, "MOVES by KIND, of so much IN a CELL: plain half of it (up); heavy half of what moves of a plain"
            + " one (down); thin all; happy 1 more than of a heavy one (all at most)");
        // by hand: what moves of 0 to 12
        int[] plain = {0, 1, 1, 2, 2, 3, 3, 4, 4, 5, 5, 6, 6};
        int[] heavy = {0, 0, 0, 1, 1, 1, 1, 2, 2, 2, 2, 3, 3};
        int[] happy = {0, 1, 1, 2, 2, 2, 2, 3, 3, 3, 3, 4, 4};
        for (int much = 0; much <= 12; much++) {
            due("plain of " + much, much - stays("plain", much), plain[much]);
            due("heavy of " + much, much - stays("heavy", much), heavy[much]);
            due("thin of " + much, much - stays("thin", much), much);
            due("happy of " + much, much - stays("happy", much), happy[much]);
        }
        int[][] more = {{13, 7, 3, 4}, {14, 7, 3, 4}, {15, 8, 4, 5}, {98, 49, 24, 25}, {99, 50, 25, 26}};
        for (int[] m : more) {
            due("plain of " + m[0], m[0] - stays("plain", m[0]), m[1]);
            due("heavy of " + m[0], m[0] - stays("heavy", m[0]), m[2]);
            due("thin of " + m[0], m[0] - stays("thin", m[0]), m[0]);
            due("happy of " + m[0], m[0] - stays("happy", m[0]), m[3]);
        }
        // more than is ever LEFT at once
        SmokeSeats x = told("happy 20 9 99;");
        for (int k = 0; k < 11; k++) {
            x.alter(0, 3, 99);
            x.steps(11);
        }
        due("IN the CELL", x.in(20, 0), 1089);
        x.blow(x.rule(2) % 6, 3);
        x.steps(1);
        due("moved of 1089", x.in(21, 0), 545 / 2 + 1);
    }

    private static void allAsItIsThen() {
        Checks.sentence(0, "of each LIFE what MOVES of each CELL (all as it is then)");
        int[] first = {0, 10, 40, 0, 3};
        int[] next = {0, 10, -10, 1, -1};
        for (int way = 1; way <= 4; way++) {
            SmokeSeats x = told("plain " + first[way] + " 8 8;thin " + first[way] + " 1 3;");
            for (int k = 0; k <= 2; k++) {
                x.blow(k, way);
            }
            x.steps(3);
            // of 8: 4 4, then 2 2+2 2, then 1 1+2 2+1 1
            int[] plain = {1, 3, 3, 1};
            int[] thin = {0, 1, 1, 1};
            for (int k = 0; k <= 3; k++) {
                due("plain by WAY " + way + ", CELL " + k, x.in(first[way] + k * next[way], 0), plain[k]);
                due("thin by WAY " + way + ", CELL " + k, x.in(first[way] + k * next[way], 1), thin[k]);
            }
        }
    }

    private static void stillAndStep() {
        Checks.sentence(0, "2 A STEP, in this order:");
        // a still STEP: told and taken, and nothing moves
        SmokeSeats x = told("thin 43 9 99;sitter 43 4;");
        due("steps(1)", x.steps(1), 4);
        due("in(43, 0)", x.in(43, 0), 5);
        due("LOST", x.rule(4), 0);
        // he who sits where it comes to takes it in the STEP behind
        x = told("thin 0 9 9;sitter 10 9;air 0 1;");
        due("steps(1) of the next CELL", x.steps(1), 0);
        due("steps(1) behind it", x.steps(1), 9);
    }

    private static void nothingIsLostOtherwise() {
        Checks.sentence(0, "A STEP, in this order");
        SmokeSeats x = Evenings.busy();
        int all = x.count(4) + x.rule(3) + x.rule(4) + x.rule(5);
        for (int k = 0; k < 30; k++) {
            int took = x.rule(5);
            due("steps(1)", x.steps(1), x.rule(5) - took);
            due("LEFT, IN CELLS, LOST and HAD", x.count(4) + x.rule(3) + x.rule(4) + x.rule(5), all);
        }
    }

    // ---- promise 17

    private static void stepsAreCounted() {
        Checks.sentence(17, "n STEPS (0 to 30): what SITTERS take in them. BAD");
        SmokeSeats x = told("plain 0 1 99;plain 43 2 99;sitter 0 1;sitter 43 9;");
        due("steps(0)", x.steps(0), 0);
        due("STEP behind 0", x.rule(2), 0);
        due("LEFT behind 0", x.count(4), 198);
        due("steps(31)", x.steps(31), BAD);
        due("steps(-1)", x.steps(-1), BAD);
        due("STEP behind those", x.rule(2), 0);
        due("steps(30)", x.steps(30), 90);
        due("STEP behind 30", x.rule(2), 30);
        due("steps(1)", x.steps(1), 3);
        due("LEFT behind 31", x.count(4), 198 - 93);
        // in an empty room the STEPS go on
        x = told("plain 0 1 2;sitter 0 1;");
        due("steps(30), of which 2 bring something", x.steps(30), 2);
        due("STEP", x.rule(2), 30);
    }

    private static void stepsAreFull() {
        Checks.sentence(17, "FULL: STEP would be 1000 or more");
        String text = "plain 0 1 0;sitter 0 9;";
        SmokeSeats x = Evenings.at(969, text);
        x.alter(0, 3, 99);
        due("steps(30) at 969", x.steps(30), 30);
        due("STEP", x.rule(2), 999);
        due("LEFT", x.life(0, 3), 69);
        x = Evenings.at(970, text);
        due("steps(30) at 970", x.steps(30), FULL);
        due("STEP, still", x.rule(2), 970);
        due("steps(31) at 970, BAD is the first that fits", x.steps(31), BAD);
        due("steps(29) at 970", x.steps(29), 0);
        due("STEP", x.rule(2), 999);
        x.alter(0, 3, 9);
        due("steps(0) at 999", x.steps(0), 0);
        due("steps(1) at 999", x.steps(1), FULL);
        due("steps(30) at 999", x.steps(30), FULL);
        due("steps(31) at 999", x.steps(31), BAD);
        due("steps(-1) at 999", x.steps(-1), BAD);
        due("STEP at last", x.rule(2), 999);
        due("LEFT at last", x.life(0, 3), 9);
        due("IN CELLS at last", x.rule(3), 0);
        due("steps(1) at 998", Evenings.at(998, text).steps(1), 0);
        due("steps(2) at 998", Evenings.at(998, text).steps(2), FULL);
        Probe late = new Probe(() -> Evenings.later(Evenings.busy(), 990));
        late.unchangedBy("steps(1) at 999", s -> due("steps(1)", s.steps(1), FULL));
        late.unchangedBy("steps(30) at 999", s -> due("steps(30)", s.steps(30), FULL));
    }

    // ---- promise 18

    private static void runsThen() {
        Checks.sentence(18, "BY STEPS, n of them (0 to 60): what SITTERS HAVE then (what 0), what is LOST then (1),"
            + " what is IN CELLS then (2)");
        // of 3 a STEP 1 is taken, 2 are lost in each sixth and kept IN the CELL in the others
        SmokeSeats x = told("thin 40 3 99;sitter 40 1;air 5 1;");
        int[][] want = {{0, 0, 0}, {1, 0, 2}, {5, 0, 10}, {6, 12, 0}, {7, 12, 2}};
        int[] when = {0, 1, 5, 6, 7};
        for (int k = 0; k < when.length; k++) {
            for (int what = 0; what <= 2; what++) {
                due("runs(" + when[k] + ", " + what + ")", x.runs(when[k], what), want[k][what]);
            }
        }
        // told for 33 STEPS; 66 wait or are lost: what waits behind 30 and 33 is taken until AIR 5 comes
        due("runs(30, 0)", x.runs(30, 0), 30);
        due("runs(30, 1)", x.runs(30, 1), 60);
        due("runs(33, 2)", x.runs(33, 2), 6);
        due("runs(36, 0)", x.runs(36, 0), 36);
        due("runs(36, 1)", x.runs(36, 1), 63);
        for (int n : new int[] {37, 59, 60}) {
            due("runs(" + n + ", 0)", x.runs(n, 0), 36);
            due("runs(" + n + ", 1)", x.runs(n, 1), 63);
            due("runs(" + n + ", 2)", x.runs(n, 2), 0);
        }
        x = told("plain 0 1 99;sitter 0 1;");
        due("runs(59, 0)", x.runs(59, 0), 59);
        due("runs(60, 0)", x.runs(60, 0), 60);
        due("runs(61, 0)", x.runs(61, 0), BAD);
        due("runs(-1, 0)", x.runs(-1, 0), BAD);
        due("runs(60, 4)", x.runs(60, 4), BAD);
        due("runs(60, -1)", x.runs(60, -1), BAD);
        x.steps(5);
        due("runs(0, 0), what is HAD already", x.runs(0, 0), 5);
        due("runs(60, 0), what is HAD already too", x.runs(60, 0), 65);
    }

    private static void runsFirst() {
        Checks.sentence(18, "behind how many first a SITTER HAS more than now (3; NONE)");
        // the second SITTER alone, and only behind 20 STEPS: by AIR 0 four times
        SmokeSeats x = told("thin 0 1 1;sitter 3 9;sitter 40 1;air 0 1;");
        due("runs(0, 3)", x.runs(0, 3), NONE);
        due("runs(19, 3)", x.runs(19, 3), NONE);
        due("runs(20, 3)", x.runs(20, 3), 20);
        due("runs(60, 3)", x.runs(60, 3), 20);
        x = told("plain 0 1 99;sitter 0 1;");
        due("runs(0, 3), at the table", x.runs(0, 3), NONE);
        due("runs(1, 3), at the table", x.runs(1, 3), 1);
        x.steps(9);
        due("runs(0, 3), of what is HAD already", x.runs(0, 3), NONE);
        due("runs(60, 3) from 9 on", x.runs(60, 3), 1);
        due("runs(60, 3), nobody", Evenings.of(3, 0).runs(60, 3), NONE);
        due("runs(60, 3), no LIVES", Evenings.of(0, 4).runs(60, 3), NONE);
        due("runs(60, 3), no sleeve", told("plain 0 1 99;sitter 0 0;").runs(60, 3), NONE);
    }

    // ---- promise 19

    private static void aheadThen() {
        Checks.sentence(19, "BY STEPS, n of them (0 to 60): what a SITTER HAS of a LIFE then. BAD");
        SmokeSeats x = told("plain 0 1 30;plain 0 1 0;thin 0 1 99;sitter 1 9;sitter 1 9;sitter 1 9;sitter 0 1;");
        int[][] want = {{0, 0, 0}, {1, 1, 0}, {30, 30, 0}, {31, 30, 1}, {59, 30, 29}, {60, 30, 30}};
        for (int[] w : want) {
            due("ahead(3, 0, " + w[0] + ")", x.ahead(3, 0, w[0]), w[1]);
            due("ahead(3, 2, " + w[0] + ")", x.ahead(3, 2, w[0]), w[2]);
            due("ahead(0, 0, " + w[0] + ")", x.ahead(0, 0, w[0]), 0);
        }
        due("ahead(3, 0, 61)", x.ahead(3, 0, 61), BAD);
        due("ahead(3, 0, -1)", x.ahead(3, 0, -1), BAD);
        due("ahead(4, 0, 0)", x.ahead(4, 0, 0), BAD);
        due("ahead(3, 3, 0)", x.ahead(3, 3, 0), BAD);
        x.steps(7);
        due("ahead(3, 0, 0) from 7 on", x.ahead(3, 0, 0), 7);
        due("ahead(3, 2, 60) from 7 on", x.ahead(3, 2, 60), 37);
    }

    // ---- promise 20

    private static void wetFirst() {
        Checks.sentence(20, "BY STEPS: behind how many (1 to 60) first a SITTER HAS more of a LIFE than now");
        SmokeSeats x = told("plain 0 1 59;thin 0 1 99;sitter 0 1;");
        due("wet(0, 0), in the first STEP", x.wet(0, 0), 1);
        due("wet(0, 1), in the 60th", x.wet(0, 1), 60);
        Evenings.later(x, 59);
        due("wet(0, 1) from 59 on", x.wet(0, 1), 1);
        due("wet(0, 0) from 59 on", x.wet(0, 0), NONE);
        x.steps(1);
        due("wet(0, 1) from 60 on, more than now", x.wet(0, 1), 1);
        // each SITTER by himself, each LIFE by itself: SITTER 1 HAS of LIFE 0, SITTER 0 of LIFE 1
        x = told("plain 0 2 99;thin 43 1 9;sitter 43 1;sitter 0 2;");
        x.steps(3);
        due("has(1, 0)", x.has(1, 0), 6);
        due("has(0, 1)", x.has(0, 1), 3);
        due("wet(1, 0)", x.wet(1, 0), 1);
        due("wet(0, 1)", x.wet(0, 1), 1);
        due("wet(0, 0)", x.wet(0, 0), NONE);
        due("wet(1, 1)", x.wet(1, 1), NONE);
        Checks.sentence(20, "BAD; NONE: behind none");
        x = told("plain 0 1 60;thin 0 1 99;sitter 0 1;sitter 43 9;sitter 0 0;");
        due("wet(0, 1), in the 61st", x.wet(0, 1), NONE);
        due("wet(1, 0), elsewhere", x.wet(1, 0), NONE);
        due("wet(2, 0), no sleeve", x.wet(2, 0), NONE);
        due("wet(3, 0)", x.wet(3, 0), BAD);
        due("wet(0, 2)", x.wet(0, 2), BAD);
        due("wet(0, 0), no LIVES", Evenings.of(0, 1).wet(0, 0), BAD);
    }

    // ---- promise 21

    private static void overFirst() {
        Checks.sentence(21, "BY STEPS: behind how many (0 to 60) nothing is IN CELLS, nothing is LEFT of any LIFE first");
        due("over(), no LIVES", new SmokeSeats().over(), 0);
        due("over(), nothing LEFT", told("plain 0 1 0;plain 0 9 0;thin 0 1 0;").over(), 0);
        SmokeSeats x = told("plain 0 1 60;sitter 0 1;");
        due("over() behind 60", x.over(), 60);
        Evenings.later(x, 59);
        due("over() behind 1", x.over(), 1);
        x.steps(1);
        due("over() behind 0", x.over(), 0);
        // LEFT of the last LIFE, though nothing is IN CELLS; IN CELLS, though nothing is LEFT
        due("over() of the third LIFE", told("plain 0 1 0;plain 0 1 0;thin 43 1 7;sitter 43 1;").over(), 7);
        due("over() of what is IN CELLS", told("thin 22 9 9;air 5 1;").over(), 18);
        Checks.sentence(21, "NONE: behind none");
        due("over() behind 61", told("plain 0 1 61;sitter 0 1;").over(), NONE);
        due("over(), still for good", told("plain 0 9 9;").over(), NONE);
        due("over(), heavy: 1 and 2 never move", told("heavy 40 2 2;air 0 1;air 1 1;air 2 1;air 3 1;").over(), NONE);
    }

    // ---- BY STEPS

    private static void byStepsBehindTheLast() {
        Checks.sentence(0, "BY STEPS: as it would be from now on");
        // STEP 999 goes by AIR 3, STEP 1000 by AIR 4: no bound is told for STEPS that only would be
        SmokeSeats x = Evenings.at(999, "thin 0 1 0;sitter 10 1;sitter 20 9;air 3 1;");
        x.alter(0, 3, 1);
        due("wet(0, 0) at 999", x.wet(0, 0), 2);
        due("ahead(0, 0, 1) at 999", x.ahead(0, 0, 1), 0);
        due("ahead(0, 0, 60) at 999", x.ahead(0, 0, 60), 1);
        due("runs(60, 0) at 999", x.runs(60, 0), 1);
        due("runs(60, 3) at 999", x.runs(60, 3), 2);
        due("over() at 999", x.over(), 2);
        due("best(1, 0, 60) at 999", x.best(1, 0, 60), 0);
        due("clean(0, 60, 0) at 999", x.clean(0, 60, 0), 1);
        due("luck(0, 0, 8, 0) at 999", x.luck(0, 0, 8, 0), 1);
        due("STEP", x.rule(2), 999);
        due("LEFT", x.life(0, 3), 1);
    }

    private static void lastCall() {
        // 'An object is used for at most 512 calls': the last of them is still answered
        String text = "plain 0 1 99;sitter 0 1;";
        SmokeSeats x = told(text);
        for (int k = text.length() + 1; k < 511; k++) {
            x.keep(k % 2);
        }
        due("the 512th call", x.steps(9), 9);
    }
}
