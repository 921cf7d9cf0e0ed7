import java.util.Arrays;

/** The edges of promises 22 to 29: the best, the cheapest, the cleanest seat, sleeves, changes, airs and odds. */
public final class BestEdgesTest {
    private static final int BAD = Checks.BAD, NONE = Checks.NONE;

    public static void main(String[] args) {
        bestOfCells();
        bestBehindSteps();
        cheapOfCells();
        cheapEnough();
        cleanOfCells();
        cleanHowMuch();
        needLeast();
        needEnough();
        swapOfPairs();
        swapMoreThanAsItIs();
        fanOfAirs();
        fanMoreThanAsItIs();
        luckOfSevenAirs();
        luckOfSome();
        meanOfAll();
        lowestTerms();
        Checks.finish();
    }

    private static void due(String call, long got, long want) {
        Checks.due(call, got, want);
    }

    private static SmokeSeats told(String text) {
        return Checks.told(text);
    }

    /** LIFE 0 so much IN each CELL, but for the c-th and the d-th; SITTER 0 has a sleeve then. */
    private static SmokeSeats filledBut(int much, int c, int ofC, int d, int ofD, int sleeve) {
        int[] all = new int[20];
        Arrays.fill(all, much);
        all[c] = ofC;
        all[d] = ofD;
        SmokeSeats x = Evenings.filled("sitter 43 0;", all);
        x.seat(0, 1, sleeve);
        return x;
    }

    // ---- promise 22

    private static void bestOfCells() {
        Checks.sentence(22, "The CELL to sit IN from now on by which a SITTER HAS most of a LIFE");
        for (int c = 0; c < 20; c++) {
            SmokeSeats x = told("plain " + Evenings.name(c) + " 2 9;sitter 22 1;");
            due("best(0, 0, 1)", x.best(0, 0, 1), Evenings.name(c));
            due("IN", x.sitter(0, 0), 22);
        }
        // the most, not the first that has some, nor the last
        due("best of 5 among 2", filledBut(2, 7, 5, 8, 4, 9).best(0, 0, 1), 13);
        // all that he HAS then counts, of that LIFE alone
        SmokeSeats x = told("plain 21 9 9;thin 12 5 99;sitter 0 9;");
        due("best(0, 0, 1)", x.best(0, 0, 1), 21);
        due("best(0, 1, 1)", x.best(0, 1, 1), 12);
        // SITTER 1 of LIFE 0, 6 AT 3 and 9 AT 40; what SITTER 0 HAS of LIFE 1 is of no matter
        x = told("plain 3 6 6;thin 0 9 9;sitter 0 9;sitter 43 0;");
        x.steps(1);
        x.alter(0, 1, 40);
        x.alter(0, 2, 9);
        x.alter(0, 3, 9);
        x.seat(1, 1, 9);
        due("best(1, 0, 1)", x.best(1, 0, 1), 40);
        due("best(0, 1, 1)", x.best(0, 1, 1), 0);
        Checks.sentence(22, "of several the first: the CELL. BAD");
        due("best of 3 and 10", filledBut(1, 3, 2, 4, 2, 9).best(0, 0, 1), 3);
        due("best of 0 and 43", filledBut(1, 0, 2, 19, 2, 9).best(0, 0, 1), 0);
        due("best of 42 and 43", filledBut(1, 18, 2, 19, 2, 9).best(0, 0, 1), 42);
        due("best of all alike", filledBut(4, 0, 4, 0, 4, 9).best(0, 0, 9), 0);
        due("best by no sleeve", filledBut(4, 9, 9, 9, 9, 0).best(0, 0, 9), 0);
        x = told("plain 12 1 9;sitter 0 9;sitter 12 9;");
        due("best behind another's sleeve", x.best(1, 0, 9), 12);
        due("best(0, 0, 9) ahead of him", x.best(0, 0, 9), 12);
        x.seat(0, 0, 12);
        due("best(1, 0, 9), SITTER 0 takes all", x.best(1, 0, 9), 0);
        due("best(2, 0, 9)", x.best(2, 0, 9), BAD);
        due("best(0, 1, 9)", x.best(0, 1, 9), BAD);
    }

    private static void bestBehindSteps() {
        Checks.sentence(22, "behind n STEPS (0 to 60)");
        SmokeSeats x = told("plain 33 1 60;thin 12 1 0;sitter 43 1;");
        due("best(0, 0, 0)", x.best(0, 0, 0), 0);
        due("best(0, 0, 60)", x.best(0, 0, 60), 33);
        due("best(0, 0, 61)", x.best(0, 0, 61), BAD);
        due("best(0, 0, -1)", x.best(0, 0, -1), BAD);
        // LIFE 1 IN 12, behind LIFE 0 in his sleeve for 59 STEPS, or for 60
        x = told("plain 12 1 59;thin 12 9 9;sitter 43 1;");
        due("best(0, 1, 59)", x.best(0, 1, 59), 0);
        due("best(0, 1, 60)", x.best(0, 1, 60), 12);
        x = told("plain 12 1 60;thin 12 9 9;sitter 43 1;");
        due("best(0, 1, 60), of none", x.best(0, 1, 60), 0);
        // what he HAS already counts for every CELL
        x = told("plain 33 1 9;sitter 33 1;");
        x.steps(9);
        due("best(0, 0, 60), nothing LEFT", x.best(0, 0, 60), 0);
    }

    // ---- promise 23

    private static void cheapOfCells() {
        Checks.sentence(23, "of least PRICE, of several the first");
        SmokeSeats x = filledBut(0, 3, 5, 4, 5, 9);
        due("cheap of 3 and 10, alike", x.cheap(0, 0, 5), 3);
        x.price(3, 1);
        due("cheap of 3 and 10, row 3 dearer", x.cheap(0, 0, 5), 10);
        x.price(0, 1);
        due("cheap of 3 and 10, both dearer", x.cheap(0, 0, 5), 3);
        x.price(3, 9);
        x.price(0, 9);
        due("cheap of 3 and 10, both dearest", x.cheap(0, 0, 5), 3);
        x.price(0, 8);
        due("cheap of 3 and 10, row 0 less dear", x.cheap(0, 0, 5), 10);
        due("IN", x.sitter(0, 0), 43);
        // the first and the last CELL
        x = filledBut(0, 0, 5, 19, 5, 9);
        x.price(0, 9);
        due("cheap of 0 and 43, row 0 dearest", x.cheap(0, 0, 5), 43);
        x.price(3, 9);
        due("cheap of 0 and 43, alike", x.cheap(0, 0, 5), 0);
        // enough is enough: the cheaper CELL that has less of it
        x = filledBut(0, 1, 9, 2, 3, 9);
        x.price(1, 5);
        x.price(2, 4);
        due("cheap(0, 0, 3)", x.cheap(0, 0, 3), 2);
        due("cheap(0, 0, 4)", x.cheap(0, 0, 4), 1);
    }

    private static void cheapEnough() {
        Checks.sentence(23, "The CELL to sit IN from now on by which a SITTER HAS v (1 to 999) or more of a LIFE");
        SmokeSeats x = Evenings.had999();
        x.price(0, 1);
        due("cheap(0, 0, 1) of 999", x.cheap(0, 0, 1), 1);
        due("cheap(0, 0, 999) of 999", x.cheap(0, 0, 999), 1);
        due("cheap(0, 0, 1000)", x.cheap(0, 0, 1000), BAD);
        due("cheap(0, 0, 0)", x.cheap(0, 0, 0), BAD);
        Checks.sentence(23, "behind 30 STEPS");
        x = told("plain 21 1 99;thin 12 9 99;sitter 43 1;");
        due("cheap(0, 0, 30)", x.cheap(0, 0, 30), 21);
        due("cheap(0, 0, 31)", x.cheap(0, 0, 31), NONE);
        x = told("plain 21 1 99;thin 12 9 99;sitter 43 9;");
        due("cheap(0, 1, 99)", x.cheap(0, 1, 99), 12);
        Checks.sentence(23, "BAD; NONE: by none");
        due("cheap(0, 1, 100)", x.cheap(0, 1, 100), NONE);
        due("cheap(0, 0, 999)", x.cheap(0, 0, 999), NONE);
        due("cheap(1, 0, 1)", x.cheap(1, 0, 1), BAD);
        due("cheap(0, 2, 1)", x.cheap(0, 2, 1), BAD);
        x.seat(0, 1, 0);
        due("cheap(0, 0, 1), no sleeve", x.cheap(0, 0, 1), NONE);
    }

    // ---- promise 24

    private static void cleanOfCells() {
        Checks.sentence(24, "The CELL to sit IN from now on by which a SITTER takes least of all LIVES in n STEPS (0 to 60)");
        due("clean of 2 among 3", filledBut(3, 19, 2, 18, 3, 9).clean(0, 1, 0), 43);
        due("clean of 2 among 3, by the first", filledBut(3, 0, 2, 18, 3, 9).clean(0, 60, 0), 0);
        SmokeSeats x = filledBut(3, 9, 2, 18, 4, 1);
        due("clean(0, 0, 0)", x.clean(0, 0, 0), 0);
        due("clean(0, 2, 0), 1 a STEP", x.clean(0, 2, 0), 0);
        due("clean(0, 3, 0), 1 a STEP", x.clean(0, 3, 0), 21);
        due("clean(0, 60, 0)", x.clean(0, 60, 0), 21);
        due("clean(0, 61, 0)", x.clean(0, 61, 0), BAD);
        due("clean(0, -1, 0)", x.clean(0, -1, 0), BAD);
        due("clean(1, 1, 0)", x.clean(1, 1, 0), BAD);
        Checks.sentence(24, "of several the first (what 0)");
        due("clean of 3 and 10", filledBut(3, 3, 1, 4, 1, 9).clean(0, 1, 0), 3);
        due("clean of 42 and 43", filledBut(3, 18, 0, 19, 0, 9).clean(0, 9, 0), 42);
        due("clean of all alike", filledBut(3, 3, 3, 4, 3, 9).clean(0, 1, 0), 0);
        due("clean, no LIVES", Evenings.of(0, 1).clean(0, 60, 0), 0);
        Checks.sentence(24, "how much (1). BAD");
        due("clean, no LIVES, how much", Evenings.of(0, 1).clean(0, 60, 1), 0);
        due("clean(0, 1, 2)", x.clean(0, 1, 2), BAD);
        due("clean(0, 1, -1)", x.clean(0, 1, -1), BAD);
    }

    private static void cleanHowMuch() {
        Checks.sentence(24, "how much (1)");
        SmokeSeats x = filledBut(3, 9, 2, 18, 4, 1);
        due("clean(0, 0, 1)", x.clean(0, 0, 1), 0);
        due("clean(0, 1, 1)", x.clean(0, 1, 1), 1);
        due("clean(0, 2, 1)", x.clean(0, 2, 1), 2);
        due("clean(0, 60, 1)", x.clean(0, 60, 1), 2);
        // in n STEPS: what he HAS already is no part of it
        x.seat(0, 0, 41);
        x.steps(2);
        due("clean(0, 60, 1) behind 2", x.clean(0, 60, 1), 1);
        due("clean(0, 60, 0) behind 2", x.clean(0, 60, 0), 41);
        // the most that can be taken: 9 a STEP in each CELL
        int[] much = new int[20];
        Arrays.fill(much, 27);
        x = Evenings.filled("sitter 0 0;", much);
        x.seat(0, 1, 9);
        due("clean(0, 2, 1) of plenty", x.clean(0, 2, 1), 18);
        due("clean(0, 3, 1) of plenty", x.clean(0, 3, 1), 27);
        due("clean(0, 60, 1) of plenty", x.clean(0, 60, 1), 27);
        due("clean(0, 60, 0) of plenty", x.clean(0, 60, 0), 0);
        Arrays.fill(much, 61);
        x = Evenings.filled("sitter 0 0;", much);
        x.seat(0, 1, 1);
        due("clean(0, 59, 1), 1 a STEP", x.clean(0, 59, 1), 59);
        due("clean(0, 60, 1), 1 a STEP", x.clean(0, 60, 1), 60);
        x = plentyInEachCell();
        due("clean(0, 60, 1), 9 a STEP", x.clean(0, 60, 1), 540);
        due("clean(0, 60, 0), 9 a STEP", x.clean(0, 60, 0), 0);
    }

    /** Three LIVES, 180 of each IN each CELL: as much as a sleeve of 9 takes in 60 STEPS. */
    private static SmokeSeats plentyInEachCell() {
        SmokeSeats x = told("plain 0 9 0;heavy 0 9 0;thin 0 9 0;sitter 22 0;");
        for (int c = 0; c < 20; c++) {
            for (int l = 0; l < 3; l++) {
                x.alter(l, 1, Evenings.name(c));
                x.alter(l, 3, 99);
            }
            x.steps(11);
            for (int l = 0; l < 3; l++) {
                x.alter(l, 3, 81);
            }
            x.steps(9);
        }
        due("IN CELLS", x.rule(3), 20 * 540);
        x.seat(0, 1, 9);
        return x;
    }

    // ---- promise 25

    private static void needLeast() {
        Checks.sentence(25, "The least SLEEVE by which a SITTER HAS v (1 to 999) or more of a LIFE");
        // 9 pass by once
        SmokeSeats x = told("thin 40 9 9;sitter 40 5;air 0 1;");
        for (int v = 1; v <= 9; v++) {
            due("need(0, 0, " + v + ")", x.need(0, 0, v), v);
        }
        due("need(0, 0, 10)", x.need(0, 0, 10), NONE);
        due("SLEEVE", x.sitter(0, 1), 5);
        x.steps(1);
        due("need(0, 0, 5), HAD already", x.need(0, 0, 5), 0);
        due("need(0, 0, 6), gone", x.need(0, 0, 6), NONE);
        // each SITTER by his own sleeve, each LIFE by itself
        x = told("plain 3 1 0;thin 40 9 9;sitter 40 0;sitter 3 0;sitter 40 2;air 0 1;");
        due("need(2, 1, 4)", x.need(2, 1, 4), 4);
        due("need(0, 1, 4)", x.need(0, 1, 4), 4);
        due("need(1, 1, 1)", x.need(1, 1, 1), NONE);
        due("need(2, 0, 1)", x.need(2, 0, 1), NONE);
        // 18 wait and go by the air of the next STEP: a sleeve of 10 would do, but there is none
        x = told("thin 40 9 18;sitter 40 0;air 2 1;");
        x.steps(2);
        due("need(0, 0, 9) of 18", x.need(0, 0, 9), 9);
        due("need(0, 0, 10) of 18", x.need(0, 0, 10), NONE);
        x = Evenings.had999();
        due("need(0, 0, 1) of 999", x.need(0, 0, 1), 0);
        due("need(0, 0, 999) of 999", x.need(0, 0, 999), 0);
        due("need(0, 0, 1000)", x.need(0, 0, 1000), BAD);
        due("need(0, 0, 0)", x.need(0, 0, 0), BAD);
    }

    private static void needEnough() {
        Checks.sentence(25, "behind 30 STEPS. BAD; NONE: by none");
        SmokeSeats x = told("plain 0 1 99;plain 0 9 99;sitter 0 0;sitter 43 9;");
        due("need(0, 0, 30)", x.need(0, 0, 30), 1);
        due("need(0, 0, 31)", x.need(0, 0, 31), NONE);
        due("need(0, 0, 999)", x.need(0, 0, 999), NONE);
        // of LIFE 1 all 99, behind 30 of LIFE 0: 129 in 30 STEPS by 5 at least
        due("need(0, 1, 99)", x.need(0, 1, 99), 5);
        due("need(0, 1, 91)", x.need(0, 1, 91), 5);
        due("need(0, 1, 90)", x.need(0, 1, 90), 4);
        due("need(0, 1, 100)", x.need(0, 1, 100), NONE);
        due("need(1, 0, 1), elsewhere", x.need(1, 0, 1), NONE);
        due("need(2, 0, 1)", x.need(2, 0, 1), BAD);
        due("need(0, 2, 1)", x.need(0, 2, 1), BAD);
        due("need(0, 0, 1), no LIVES", Evenings.of(0, 1).need(0, 0, 1), BAD);
    }

    // ---- promise 26

    private static void swapOfPairs() {
        Checks.sentence(26, "Two SITTERS who are to change CELLS so that all HAVE most");
        // the one at the table has no sleeve, one of the others has
        for (int a = 0; a < 4; a++) {
            for (int b = 0; b < 4; b++) {
                if (a != b) {
                    SmokeSeats x = told("plain 22 1 99;sitter 0 0;sitter 1 0;sitter 2 0;sitter 3 0;");
                    x.seat(a, 0, 22);
                    x.seat(b, 1, 9);
                    int pair = 10 * Math.min(a, b) + Math.max(a, b);
                    Checks.sentence(26, "10 times the lesser and the greater");
                    due("swap(60, 0) of " + a + " and " + b, x.swap(60, 0), pair);
                    due("swap(60, 1) of " + a + " and " + b, x.swap(60, 1), 60);
                    due("swap(1, 1) of " + a + " and " + b, x.swap(1, 1), 1);
                    due("IN of " + a, x.sitter(a, 0), 22);
                }
            }
        }
        Checks.sentence(26, "of several the least (what 0), how much (1)");
        SmokeSeats x = told("plain 22 3 99;sitter 22 0;sitter 0 2;sitter 1 2;sitter 2 2;");
        due("swap of three alike", x.swap(5, 0), 1);
        due("swap of three alike, how much", x.swap(5, 1), 10);
        x.seat(3, 1, 3);
        due("swap of the last, who takes most", x.swap(5, 0), 3);
        due("swap of the last, how much", x.swap(5, 1), 15);
        x = told("plain 22 3 99;sitter 0 2;sitter 1 2;sitter 2 2;sitter 22 0;");
        due("swap of three alike, 03 13 23", x.swap(5, 0), 3);
    }

    private static void swapMoreThanAsItIs() {
        Checks.sentence(26, "behind n STEPS (0 to 60), more than as it is");
        SmokeSeats x = told("plain 22 9 99;sitter 22 2;sitter 0 2;sitter 22 3;");
        due("swap(1, 0), as much", x.swap(1, 0), NONE);
        due("swap(1, 1), as much", x.swap(1, 1), NONE);
        x.seat(1, 1, 3);
        due("swap(0, 0)", x.swap(0, 0), NONE);
        due("swap(1, 0), 1 more", x.swap(1, 0), 1);
        due("swap(1, 1), 1 more", x.swap(1, 1), 6);
        due("swap(60, 0), all is HAD in any case", x.swap(60, 0), NONE);
        due("swap(61, 0)", x.swap(61, 0), BAD);
        due("swap(-1, 0)", x.swap(-1, 0), BAD);
        due("swap(1, 2)", x.swap(1, 2), BAD);
        due("swap(1, -1)", x.swap(1, -1), BAD);
        // all that they HAVE then, what they HAD ahead too
        x.steps(2);
        due("swap(1, 1) behind 2", x.swap(1, 1), 16);
        Checks.sentence(26, "BAD; NONE: by none");
        due("swap, nobody", Evenings.of(3, 0).swap(60, 0), NONE);
        due("swap, one alone", told("plain 0 1 1;sitter 1 1;").swap(60, 0), NONE);
        due("swap, no LIVES", Evenings.of(0, 4).swap(60, 1), NONE);
        due("swap in one CELL", told("plain 0 9 9;sitter 1 1;sitter 1 9;").swap(60, 0), NONE);
    }

    // ---- promise 27

    private static void fanOfAirs() {
        Checks.sentence(27, "One AIR to have another WAY so that a SITTER HAS most of all LIVES");
        int[] beside = {22, 32, 12, 23, 21};
        for (int k = 0; k <= 5; k++) {
            for (int way = 1; way <= 4; way++) {
                SmokeSeats x = Evenings.at(k, "plain 0 1 0;thin 22 7 0;sitter 0 9;sitter 0 9;");
                x.seat(1, 0, beside[way]);
                x.alter(1, 3, 7);
                Checks.sentence(27, "10 times the AIR and the WAY");
                due("fan(1, 2, 0)", x.fan(1, 2, 0), 10 * k + way);
                due("fan(1, 2, 1)", x.fan(1, 2, 1), 7);
                due("fan(0, 2, 0)", x.fan(0, 2, 0), NONE);
                due("air(" + k + ")", x.air(k), 0);
            }
            // to fall still: at the table he HAS 2 more where it stays
            SmokeSeats x = Evenings.at(k, "thin 22 9 0;sitter 22 5;");
            x.alter(0, 3, 9);
            x.blow(k, 2);
            due("fan(0, 2, 0) to still", x.fan(0, 2, 0), 10 * k);
            due("fan(0, 2, 1) to still", x.fan(0, 2, 1), 9);
        }
        Checks.sentence(27, "of several the least (what 0), how much (1)");
        SmokeSeats x = told("thin 22 7 7;sitter 32 9;");
        due("fan(0, 7, 0): each AIR brings it", x.fan(0, 7, 0), 1);
        due("fan(0, 7, 1)", x.fan(0, 7, 1), 7);
        // all LIVES count: 3 by x more, 2 and 2 by y more
        x = told("plain 13 1 0;thin 12 3 3;thin 21 4 4;sitter 22 9;");
        due("fan(0, 2, 0): 3 by x more, 4 by y more", x.fan(0, 2, 0), 3);
        x.alter(2, 3, 3);
        due("fan(0, 2, 0): 3 and 3", x.fan(0, 2, 0), 1);
        due("fan(0, 2, 1): 3 and 3", x.fan(0, 2, 1), 3);
        x.alter(0, 1, 12);
        x.alter(0, 3, 1);
        due("fan(0, 2, 1): 1 and 3", x.fan(0, 2, 1), 4);
    }

    private static void fanMoreThanAsItIs() {
        Checks.sentence(27, "behind n STEPS (0 to 60), more than as it is");
        SmokeSeats x = told("thin 22 7 7;sitter 32 3;");
        due("fan(0, 0, 0)", x.fan(0, 0, 0), NONE);
        due("fan(0, 1, 0)", x.fan(0, 1, 0), NONE);
        due("fan(0, 60, 0)", x.fan(0, 60, 0), 1);
        due("fan(0, 60, 1): 7 in three STEPS, AIR 0 comes but each sixth", x.fan(0, 60, 1), 7);
        x.blow(0, 1);
        due("fan(0, 60, 0), as it is best", x.fan(0, 60, 0), NONE);
        due("fan(0, 60, 1), as it is best", x.fan(0, 60, 1), NONE);
        due("fan(0, 61, 0)", x.fan(0, 61, 0), BAD);
        due("fan(0, -1, 0)", x.fan(0, -1, 0), BAD);
        due("fan(0, 1, 2)", x.fan(0, 1, 2), BAD);
        due("fan(0, 1, -1)", x.fan(0, 1, -1), BAD);
        Checks.sentence(27, "BAD; NONE: by none");
        due("fan(1, 1, 0)", x.fan(1, 1, 0), BAD);
        due("fan, nobody", Evenings.of(3, 0).fan(0, 1, 0), BAD);
        due("fan, no LIVES", Evenings.of(0, 1).fan(0, 60, 1), NONE);
        // his sleeve is full of LIFE 0 for 59 STEPS; LIFE 1, kept near by AIR 0 against AIR 5, comes in the 60th
        x = told("plain 32 1 59;thin 22 1 1;sitter 32 1;air 5 2;");
        due("fan(0, 59, 0)", x.fan(0, 59, 0), NONE);
        due("fan(0, 60, 0)", x.fan(0, 60, 0), 1);
        due("fan(0, 60, 1)", x.fan(0, 60, 1), 60);
        // what he HAS already counts in how much
        x = told("plain 22 7 7;sitter 22 4;sitter 32 9;");
        x.steps(1);
        x.seat(0, 0, 32);
        due("fan(0, 2, 1): 4 and 2", x.fan(0, 2, 1), 6);
    }

    // ---- promise 28

    private static void fraction(String name, long above, long below, long wantAbove, long wantBelow) {
        due(name + ", above", above, wantAbove);
        due(name + ", below", below, wantBelow);
    }

    private static void luck(SmokeSeats x, int v, int i, int n, long above, long below) {
        fraction("luck(" + v + ", " + i + ", " + n + ")", x.luck(v, i, n, 0), x.luck(v, i, n, 1), above, below);
    }

    private static void mean(SmokeSeats x, int v, int i, int n, long above, long below) {
        fraction("mean(" + v + ", " + i + ", " + n + ")", x.mean(v, i, n, 0), x.mean(v, i, n, 1), above, below);
    }

    /** From 0 to 43 by seven airs in turn: so much comes there in the eighth STEP, if none has fallen still. */
    private static SmokeSeats sevenAirs(int much) {
        return told("thin 0 " + much + " " + much + ";sitter 43 9;sitter 0 0;"
            + "air 0 1;air 1 3;air 2 3;air 3 3;air 4 1;air 5 1;");
    }

    private static void luckOfSevenAirs() {
        SmokeSeats x = sevenAirs(1);
        Checks.sentence(28, "In each of n STEPS (0 to 8) it is still by v out of ten (0 to 10), by itself");
        luck(x, 0, 0, 8, 1, 1);
        luck(x, 1, 0, 8, 4782969, 10000000);
        luck(x, 2, 0, 8, 16384, 78125);
        luck(x, 3, 0, 8, 823543, 10000000);
        luck(x, 4, 0, 8, 2187, 78125);
        luck(x, 5, 0, 8, 1, 128);
        luck(x, 6, 0, 8, 128, 78125);
        luck(x, 7, 0, 8, 2187, 10000000);
        luck(x, 8, 0, 8, 1, 78125);
        luck(x, 9, 0, 8, 1, 10000000);
        luck(x, 10, 0, 8, 0, 1);
        for (int v = 0; v <= 10; v++) {
            luck(x, v, 0, 7, 0, 1);
            luck(x, v, 0, 0, 0, 1);
            luck(x, v, 1, 8, 0, 1);
        }
        due("luck(0, 0, 9, 0)", x.luck(0, 0, 9, 0), BAD);
        due("luck(0, 0, -1, 0)", x.luck(0, 0, -1, 0), BAD);
        due("luck(11, 0, 1, 0)", x.luck(11, 0, 1, 0), BAD);
        due("luck(-1, 0, 1, 0)", x.luck(-1, 0, 1, 0), BAD);
        Checks.sentence(28, "0, 1. BAD");
        due("luck(0, 0, 1, 2)", x.luck(0, 0, 1, 2), BAD);
        due("luck(0, 0, 1, -1)", x.luck(0, 0, 1, -1), BAD);
        due("luck(0, 2, 1, 0)", x.luck(0, 2, 1, 0), BAD);
        due("luck, nobody", Evenings.of(3, 0).luck(5, 0, 1, 0), BAD);
        luck(Evenings.of(0, 1), 5, 0, 8, 0, 1);
    }

    private static void luckOfSome() {
        Checks.sentence(28, "that a SITTER takes some of any LIFE in them");
        SmokeSeats x = told("plain 0 1 0;plain 0 1 0;thin 0 1 1;sitter 0 1;sitter 10 1;air 0 1;");
        // what is taken once is enough, however often it could be more
        luck(x, 5, 0, 1, 1, 1);
        luck(x, 5, 0, 8, 1, 1);
        x.seat(0, 1, 0);
        luck(x, 4, 1, 1, 0, 1);
        luck(x, 4, 1, 2, 3, 5);
        // still airs are still in any case; AIR 0 comes again in STEP 6
        luck(x, 4, 1, 7, 3, 5);
        luck(x, 4, 1, 8, 21, 25);
        // to 1 it comes if AIR 0 falls still and AIR 1 does not: v times 10 less v, out of a hundred
        x = told("thin 0 1 1;sitter 1 1;air 0 1;air 1 3;");
        long[][] want = {{0, 1}, {9, 100}, {4, 25}, {21, 100}, {6, 25}, {1, 4}, {6, 25}, {21, 100}, {4, 25}, {9, 100}, {0, 1}};
        for (int v = 0; v <= 10; v++) {
            luck(x, v, 0, 3, want[v][0], want[v][1]);
            mean(x, v, 0, 3, want[v][0], want[v][1]);
        }
        // from now on: what he HAS already is no luck
        x = told("thin 0 9 9;sitter 0 9;");
        x.steps(1);
        luck(x, 5, 0, 8, 0, 1);
        due("STEP", x.rule(2), 1);
    }

    // ---- promise 29

    private static void meanOfAll() {
        Checks.sentence(29, "Likewise, the mean of what SITTER i takes in all: 0, 1. BAD");
        SmokeSeats x = sevenAirs(9);
        mean(x, 0, 0, 8, 9, 1);
        mean(x, 5, 0, 8, 9, 128);
        mean(x, 9, 0, 8, 9, 10000000);
        mean(x, 10, 0, 8, 0, 1);
        mean(x, 9, 0, 7, 0, 1);
        mean(x, 9, 0, 0, 0, 1);
        mean(x, 9, 1, 8, 0, 1);
        x = sevenAirs(5);
        mean(x, 9, 0, 8, 1, 2000000);
        x = told("plain 22 9 99;sitter 22 9;sitter 22 9;air 0 1;air 1 1;");
        mean(x, 0, 0, 8, 72, 1);
        mean(x, 7, 0, 8, 72, 1);
        mean(x, 10, 0, 1, 9, 1);
        mean(x, 7, 1, 8, 0, 1);
        due("mean(0, 0, 9, 0)", x.mean(0, 0, 9, 0), BAD);
        due("mean(0, 0, -1, 0)", x.mean(0, 0, -1, 0), BAD);
        due("mean(11, 0, 1, 0)", x.mean(11, 0, 1, 0), BAD);
        due("mean(-1, 0, 1, 0)", x.mean(-1, 0, 1, 0), BAD);
        due("mean(0, 0, 1, 2)", x.mean(0, 0, 1, 2), BAD);
        due("mean(0, 2, 1, 0)", x.mean(0, 2, 1, 0), BAD);
        due("mean, nobody", Evenings.of(3, 0).mean(5, 0, 1, 0), BAD);
        mean(Evenings.of(0, 1), 5, 0, 8, 0, 1);
        // of all LIVES; what he HAS already is no part of it
        x = told("thin 0 2 4;thin 0 3 6;sitter 10 9;sitter 0 1;air 0 1;air 1 1;");
        mean(x, 5, 0, 2, 2, 1);
        x.steps(2);
        mean(x, 5, 0, 0, 0, 1);
        due("all that he HAS behind 2", x.sitter(0, 2), 4);
        // 4 more have come to 10 by then: those are taken in any air
        mean(x, 5, 0, 1, 4, 1);
    }

    private static void lowestTerms() {
        Checks.sentence(0, "Fractions are in lowest terms, the denominator above 0 (0 is 0 by 1)");
        // 1 comes by each air that blows: the mean of one air is (10 - v) by 10
        SmokeSeats x = told("thin 0 1 1;sitter 10 1;air 0 1;");
        long[][] want = {{1, 1}, {9, 10}, {4, 5}, {7, 10}, {3, 5}, {1, 2}, {2, 5}, {3, 10}, {1, 5}, {1, 10}, {0, 1}};
        for (int v = 0; v <= 10; v++) {
            luck(x, v, 0, 2, want[v][0], want[v][1]);
            mean(x, v, 0, 2, want[v][0], want[v][1]);
        }
        // a numerator that is no less than its denominator
        mean(sevenAirs(8), 5, 0, 8, 1, 16);
        mean(sevenAirs(4), 8, 0, 8, 4, 78125);
        mean(told("thin 0 5 5;sitter 10 9;air 0 1;"), 8, 0, 2, 1, 1);
        mean(told("thin 0 5 5;sitter 10 9;air 0 1;"), 5, 0, 2, 5, 2);
        mean(told("thin 0 4 4;sitter 10 9;air 0 1;"), 5, 0, 2, 2, 1);
        luck(Evenings.of(1, 1), 3, 0, 0, 0, 1);
        mean(Evenings.of(1, 1), 3, 0, 0, 0, 1);
    }
}
