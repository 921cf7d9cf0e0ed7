import java.math.BigInteger;

/** The edges of promises 30 to 35: what was seen, of which kind, from where, whom to ask; evenings by a seed. */
public final class SeenEdgesTest {
    private static final int BAD = Checks.BAD, STATE = Checks.STATE, FULL = Checks.FULL, NONE = Checks.NONE;

    public static void main(String[] args) {
        seenSix();
        seenNumbers();
        seenOfNobody();
        forgetAllButTheFirst();
        kindsByBits();
        kindsBehindSteps();
        kindsBySix();
        fromsByCells();
        fromsBehindSteps();
        fromsNone();
        askFewest();
        askBehindSteps();
        askNobody();
        driftBySeed();
        driftWrapsAround();
        driftSteps();
        driftState();
        Checks.finish();
    }

    private static void due(String call, long got, long want) {
        Checks.due(call, got, want);
    }

    private static SmokeSeats told(String text) {
        return Checks.told(text);
    }

    // ---- promise 30

    private static void seenSix() {
        Checks.sentence(30, "how many are");
        SmokeSeats x = Evenings.of(3, 4);
        for (int k = 1; k <= 6; k++) {
            due("see the " + k, x.see(k % 4, k % 3, k, k), k);
            due("SEEN", x.count(0), k);
        }
        Checks.sentence(30, "BAD; FULL");
        due("see the 7th", x.see(0, 0, 0, 0), FULL);
        due("see the 7th, BAD is the first that fits", x.see(4, 0, 0, 0), BAD);
        due("see the 7th, n 31", x.see(0, 0, 31, 0), BAD);
        due("see the 7th, v 1000", x.see(0, 0, 0, 1000), BAD);
        due("SEEN, still", x.count(0), 6);
        due("forget(5)", x.forget(5), 6);
        due("see the 6th again", x.see(0, 0, 0, 0), 6);
        due("see the 7th again", x.see(0, 0, 0, 0), FULL);
        Checks.sentence(0, "SEEN (6)");
        Probe full = new Probe(() -> {
            SmokeSeats s = Evenings.busy();
            s.see(0, 0, 1, s.ahead(0, 0, 1));
            s.see(2, 1, 0, s.has(2, 1));
            return s;
        });
        full.unchangedBy("see() of the 7th", s -> due("see()", s.see(1, 1, 1, 1), FULL));
    }

    private static void seenNumbers() {
        Checks.sentence(30, "SEEN: behind n STEPS (0 to 30) a SITTER HAS v (0 to 999) of a LIFE");
        SmokeSeats x = Evenings.of(3, 4);
        int[][] taken = {{0, 0, 0, 0}, {3, 2, 30, 999}, {0, 2, 30, 0}, {3, 0, 0, 999}};
        for (int k = 0; k < taken.length; k++) {
            int[] t = taken[k];
            due("see() at its edges", x.see(t[0], t[1], t[2], t[3]), k + 1);
        }
        int[] base = {1, 1, 1, 1};
        int[] most = {3, 2, 30, 999};
        for (int k = 0; k < base.length; k++) {
            for (int no : new int[] {-1, most[k] + 1, Checks.LEAST, Checks.MOST}) {
                int[] a = base.clone();
                a[k] = no;
                due("see() with " + no + " in place " + k, x.see(a[0], a[1], a[2], a[3]), BAD);
            }
        }
        due("SEEN", x.count(0), 4);
    }

    private static void seenOfNobody() {
        Checks.sentence(30, "BAD");
        due("see, nobody", Evenings.of(3, 0).see(0, 0, 0, 0), BAD);
        due("see, no LIVES", Evenings.of(0, 4).see(0, 0, 0, 0), BAD);
        due("see, a new object", new SmokeSeats().see(0, 0, 0, 0), BAD);
    }

    // ---- promise 31

    private static void forgetAllButTheFirst() {
        Checks.sentence(31, "SEEN are the first n alone: how many there were. BAD");
        SmokeSeats x = Evenings.of(1, 1);
        due("forget(0) of none", x.forget(0), 0);
        due("forget(1) of none", x.forget(1), BAD);
        due("forget(-1) of none", x.forget(-1), BAD);
        for (int k = 0; k < 6; k++) {
            x.see(0, 0, 0, 0);
        }
        due("forget(7) of 6", x.forget(7), BAD);
        due("forget(6) of 6", x.forget(6), 6);
        for (int n = 5; n >= 0; n--) {
            due("forget(" + n + ")", x.forget(n), n + 1);
            due("SEEN", x.count(0), n);
            due("forget(" + (n + 1) + ") of " + n, x.forget(n + 1), BAD);
        }
        // the first stay, the later ones are gone
        x.see(0, 0, 0, 0);
        x.see(0, 0, 0, 1);
        due("kinds(0) by two that can not be at once", x.kinds(0), 0);
        x.forget(1);
        due("kinds(0) by the first", x.kinds(0), 15);
        x.forget(0);
        x.see(0, 0, 0, 1);
        x.see(0, 0, 0, 0);
        x.forget(1);
        due("kinds(0) by the first, that can not be", x.kinds(0), 0);
    }

    // ---- promise 32

    /** Behind two STEPS he HAS of 9: 5 plain ones, 2 heavy ones, 9 thin ones, 3 happy ones. */
    private static SmokeSeats ofNine(String kind) {
        return told(kind + " 0 9 9;sitter 10 9;air 0 1;");
    }

    private static void kindsByBits() {
        Checks.sentence(32, "KINDS of a LIFE (bits) by which, all else as it is, all is as SEEN. BAD");
        String[] names = {"plain", "heavy", "thin", "happy"};
        int[] much = {5, 2, 9, 3};
        for (int kind = 0; kind <= 3; kind++) {
            for (int seen = 0; seen <= 3; seen++) {
                SmokeSeats x = ofNine(names[kind]);
                x.see(0, 0, 2, much[seen]);
                due("kinds(0) of a " + names[kind] + " one", x.kinds(0), 1 << seen);
                due("KIND", x.life(0, 0), kind);
            }
        }
        SmokeSeats x = ofNine("thin");
        due("kinds(0), nothing SEEN", x.kinds(0), 15);
        for (int no : new int[] {0, 1, 4, 6, 8, 10, 999}) {
            x.see(0, 0, 2, no);
            due("kinds(0) by " + no, x.kinds(0), 0);
            x.forget(0);
        }
        due("kinds(1)", x.kinds(1), BAD);
        due("kinds(-1)", x.kinds(-1), BAD);
        due("kinds(0), no LIVES", Evenings.of(0, 1).kinds(0), BAD);
        due("kinds(0), nobody", Evenings.of(1, 0).kinds(0), 15);
        // each LIFE by itself, all else as it is
        for (int l = 0; l <= 2; l++) {
            for (int seen = 0; seen <= 3; seen++) {
                x = told("plain 3 1 0;plain 3 1 0;plain 3 1 0;sitter 10 9;air 0 1;");
                x.alter(l, 1, 0);
                x.alter(l, 2, 9);
                x.alter(l, 3, 9);
                x.see(0, l, 2, much[seen]);
                for (int other = 0; other <= 2; other++) {
                    due("kinds(" + other + ") by LIFE " + l, x.kinds(other), other == l ? 1 << seen : seen == 0 ? 15 : 0);
                }
            }
        }
        // of 1: none of a heavy one moves, all of any other
        x = told("heavy 0 1 1;sitter 10 9;air 0 1;");
        x.see(0, 0, 2, 1);
        due("kinds(0) of 1", x.kinds(0), 13);
        x.forget(0);
        x.see(0, 0, 2, 0);
        due("kinds(0) of 0", x.kinds(0), 2);
    }

    private static void kindsBehindSteps() {
        Checks.sentence(0, "SEEN (6): behind n STEPS (0 to 30) from now on a SITTER HAS so much of a LIFE");
        SmokeSeats x = told("plain 0 1 99;sitter 0 1;");
        int[] when = {0, 1, 29, 30};
        for (int n : when) {
            for (int v = Math.max(0, n - 1); v <= n + 1; v++) {
                x.see(0, 0, n, v);
                due("kinds(0) by " + v + " behind " + n, x.kinds(0), v == n ? 15 : 0);
                x.forget(0);
            }
        }
        // from now on: what was SEEN goes along with the evening
        x.see(0, 0, 2, 7);
        due("kinds(0) by 7 behind 2", x.kinds(0), 0);
        x.steps(5);
        due("kinds(0) by 7 behind 2, from 5 on", x.kinds(0), 15);
        x.steps(1);
        due("kinds(0) by 7 behind 2, from 6 on", x.kinds(0), 0);
        // 999 is HAD, 1000 can not be SEEN
        x = Evenings.had999();
        x.see(0, 0, 30, 999);
        due("kinds(0) by 999", x.kinds(0), 15);
        x = Evenings.at(999, "plain 0 1 0;sitter 0 1;");
        x.alter(0, 3, 99);
        x.see(0, 0, 30, 30);
        due("kinds(0) at 999", x.kinds(0), 15);
    }

    private static void kindsBySix() {
        Checks.sentence(32, "by which, all else as it is, all is as SEEN");
        for (int wrong = -1; wrong < 6; wrong++) {
            SmokeSeats x = told("plain 0 9 9;heavy 43 9 9;sitter 10 9;sitter 33 9;air 0 1;air 1 2;");
            // behind 0, 1: none; behind 2: 5 of LIFE 0; behind 3: 2 of LIFE 1
            int[][] seen = {{0, 0, 0, 0}, {0, 0, 1, 0}, {0, 0, 2, 5}, {1, 1, 3, 2}, {1, 0, 30, 0}, {0, 1, 30, 0}};
            for (int k = 0; k < 6; k++) {
                int[] s = seen[k];
                x.see(s[0], s[1], s[2], s[3] + (k == wrong ? 1 : 0));
            }
            // LIFE 1 may be of no other KIND; of a LIFE 0 that is not plain 5 would not be HAD
            due("kinds(0), " + wrong + " is not so", x.kinds(0), wrong == -1 ? 1 : 0);
        }
    }

    // ---- promise 33

    private static void fromsByCells() {
        Checks.sentence(33, "CELLS AT which a LIFE may be told from now on, by which, all else as it is, all is as SEEN:"
            + " how many (what 0), the first (1)");
        SmokeSeats x = told("thin 22 1 9;sitter 43 1;");
        due("froms(0, 0), nothing SEEN", x.froms(0, 0), 20);
        due("froms(0, 1), nothing SEEN", x.froms(0, 1), 0);
        for (int c = 0; c < 20; c++) {
            x.seat(0, 0, Evenings.name(c));
            x.see(0, 0, 1, 1);
            due("froms(0, 0) of one CELL", x.froms(0, 0), 1);
            due("froms(0, 1) of one CELL", x.froms(0, 1), Evenings.name(c));
            x.forget(0);
            x.see(0, 0, 1, 0);
            due("froms(0, 0) of all but one", x.froms(0, 0), 19);
            due("froms(0, 1) of all but one", x.froms(0, 1), c == 0 ? 1 : 0);
            x.forget(0);
        }
        due("AT", x.life(0, 1), 22);
        due("froms(0, 2)", x.froms(0, 2), BAD);
        due("froms(0, -1)", x.froms(0, -1), BAD);
        due("froms(1, 0)", x.froms(1, 0), BAD);
        due("froms(0, 0), no LIVES", Evenings.of(0, 1).froms(0, 0), BAD);
        due("froms(0, 0), nobody", Evenings.of(1, 0).froms(0, 0), 20);
        // the first by its name: behind 0, 1 and 2 comes 3, ahead of 10
        x = told("thin 22 1 1;sitter 0 1;sitter 1 1;sitter 2 1;");
        for (int i = 0; i < 3; i++) {
            x.see(i, 0, 1, 0);
        }
        due("froms(0, 0), neither 0 nor 1 nor 2", x.froms(0, 0), 17);
        due("froms(0, 1), neither 0 nor 1 nor 2", x.froms(0, 1), 3);
        // may be told from now on: what has been told stays
        x = told("plain 22 9 9;sitter 22 4;");
        x.steps(1);
        x.see(0, 0, 1, 8);
        due("froms(0, 0), nothing LEFT", x.froms(0, 0), 20);
    }

    private static void fromsBehindSteps() {
        Checks.sentence(33, "by which, all else as it is, all is as SEEN");
        // LIFE 1 behind LIFE 0 in his sleeve, for 29 STEPS or for 30
        SmokeSeats x = told("plain 22 1 29;plain 0 1 99;sitter 22 1;");
        x.see(0, 1, 30, 1);
        due("froms(1, 0) behind 30", x.froms(1, 0), 1);
        due("froms(1, 1) behind 30", x.froms(1, 1), 22);
        x.alter(0, 3, 30);
        due("froms(1, 0) behind 30, one STEP too late", x.froms(1, 0), 0);
        x.forget(0);
        x.see(0, 1, 0, 0);
        due("froms(1, 0) behind 0", x.froms(1, 0), 20);
        x.see(0, 1, 0, 1);
        due("froms(1, 0) by what is not", x.froms(1, 0), 0);
    }

    private static void fromsNone() {
        Checks.sentence(33, "BAD; NONE (1): there are none");
        SmokeSeats x = told("thin 22 1 9;sitter 43 1;");
        x.see(0, 0, 1, 2);
        due("froms(0, 0)", x.froms(0, 0), 0);
        due("froms(0, 1)", x.froms(0, 1), NONE);
        due("froms(1, 1), BAD is the first that fits", x.froms(1, 1), BAD);
        due("froms(0, 2), BAD is the first that fits", x.froms(0, 2), BAD);
    }

    // ---- promise 34

    private static void askFewest() {
        Checks.sentence(34, "so that of CELLS AT which it may be told fewest are left at the worst, fewer than now,"
            + " the first (what 0), how many these are (1)");
        // still: each SITTER knows his own CELL alone
        SmokeSeats x = told("thin 0 1 1;sitter 12 0;sitter 22 1;sitter 32 1;");
        due("ask(0, 0), of two alike", x.ask(0, 0), 1);
        due("ask(0, 1), of two alike", x.ask(0, 1), 19);
        for (int i = 0; i <= 3; i++) {
            for (int c = 0; c < 20; c++) {
                x = told("plain 0 1 0;thin 0 1 1;sitter 0 0;sitter 0 0;sitter 0 0;sitter 0 0;");
                x.seat(i, 0, Evenings.name(c));
                x.seat(i, 1, 1);
                due("ask(1, 0), SITTER " + i + " alone IN " + Evenings.name(c), x.ask(1, 0), i);
                due("ask(1, 1), SITTER " + i + " alone IN " + Evenings.name(c), x.ask(1, 1), 19);
            }
        }
        // x more by AIR 0: 32 tells of 32, 22, 12, 2; SITTER 1 takes what would come from 22, 12, 2
        x = told("thin 0 1 1;sitter 12 0;sitter 23 1;sitter 32 1;air 0 1;");
        due("ask(0, 0), the last", x.ask(0, 0), 2);
        due("ask(0, 1), the last", x.ask(0, 1), 16);
        x.seat(1, 0, 42);
        due("ask(0, 0), five CELLS, but one is taken ahead", x.ask(0, 0), 2);
        x.seat(2, 1, 0);
        due("ask(0, 0), five CELLS", x.ask(0, 0), 1);
        due("ask(0, 1), five CELLS", x.ask(0, 1), 15);
        // how much he HAS: 3 from 22, where the rest goes by; 8 from 12 and 2, where it comes to stay; 0 from others
        x = told("thin 0 8 8;sitter 43 0;sitter 22 3;air 0 1;");
        due("ask(0, 0), by how much", x.ask(0, 0), 1);
        due("ask(0, 1), by how much", x.ask(0, 1), 17);
        x.see(1, 0, 9, 8);
        due("froms(0, 0), 12 alone", x.froms(0, 0), 1);
        due("froms(0, 1), 12 alone", x.froms(0, 1), 12);
        x.forget(0);
        x.see(1, 0, 2, 0);
        due("froms(0, 0), neither 22 nor 12", x.froms(0, 0), 18);
        due("ask(0, 1), 2 apart from the others", x.ask(0, 1), 17);
        x.forget(0);
        x.see(1, 0, 10, 8);
        due("froms(0, 0), 12 and 2", x.froms(0, 0), 2);
        due("ask(0, 0), 12 and 2 alike", x.ask(0, 0), NONE);
        // two CELLS are left by what is SEEN: 22, from where he HAS 1, and 12, from where he HAS 2
        x = told("thin 0 2 2;sitter 43 0;sitter 43 0;sitter 43 0;sitter 22 1;air 0 1;");
        x.see(3, 0, 2, 1);
        due("froms(0, 0), 12 and 22", x.froms(0, 0), 2);
        due("ask(0, 0), 12 and 22 apart", x.ask(0, 0), 3);
        due("ask(0, 1), 12 and 22 apart", x.ask(0, 1), 1);
        due("ask(0, 2)", x.ask(0, 2), BAD);
        due("ask(0, -1)", x.ask(0, -1), BAD);
    }

    private static void askBehindSteps() {
        Checks.sentence(34, "The SITTER to ask how much of a LIFE he HAS behind 30 STEPS");
        SmokeSeats x = told("plain 22 1 29;plain 0 1 99;sitter 22 1;");
        due("ask(1, 0), HAD in the 30th", x.ask(1, 0), 0);
        due("ask(1, 1), HAD in the 30th", x.ask(1, 1), 19);
        x.alter(0, 3, 30);
        due("ask(1, 0), HAD in the 31st", x.ask(1, 0), NONE);
        due("ask(1, 1), HAD in the 31st", x.ask(1, 1), NONE);
        x.alter(0, 3, 29);
        x.see(0, 0, 0, 0);
        due("ask(1, 1), SEEN behind 0", x.ask(1, 1), 19);
    }

    private static void askNobody() {
        Checks.sentence(34, "BAD; NONE: nobody");
        due("ask(0, 0), nobody", Evenings.of(1, 0).ask(0, 0), NONE);
        due("ask(0, 1), nobody", Evenings.of(1, 0).ask(0, 1), NONE);
        due("ask(0, 0), no LIVES", Evenings.of(0, 1).ask(0, 0), BAD);
        due("ask(1, 0)", Evenings.of(1, 1).ask(1, 0), BAD);
        SmokeSeats x = told("thin 0 1 1;sitter 12 0;");
        due("ask(0, 0), no sleeve", x.ask(0, 0), NONE);
        due("ask(0, 1), no sleeve", x.ask(0, 1), NONE);
        x = told("thin 0 1 1;sitter 12 1;");
        due("ask(0, 0), 19 of 20", x.ask(0, 0), 0);
        x.see(0, 0, 1, 1);
        due("ask(0, 0), of one CELL not fewer", x.ask(0, 0), NONE);
        x.forget(0);
        x.see(0, 0, 0, 1);
        due("ask(0, 0), of no CELL not fewer", x.ask(0, 0), NONE);
        due("ask(0, 1), of no CELL not fewer", x.ask(0, 1), NONE);
        // two CELLS that he tells apart: one is left at the worst
        x = told("thin 0 1 1;sitter 12 1;sitter 11 1;air 0 3;");
        x.see(0, 0, 30, 1);
        due("froms(0, 0)", x.froms(0, 0), 1);
        x.seat(1, 1, 0);
        due("froms(0, 0)", x.froms(0, 0), 3);
        due("ask(0, 0), he HAS 1 in any case", x.ask(0, 0), NONE);
    }

    // ---- promise 35

    private static void driftBySeed() {
        Checks.sentence(35, "ahead of each the seed becomes seed times 1103515245 and 12345;"
            + " bits 16 to 30 of it modulo 5 is the WAY of the AIR of that STEP");
        // of the seed 1 bits 16 to 30 are 16838, 5758, 10113, 17515, 31051: y more three times, still, x more
        due("drift(1, 1, 1) from 3: y more", told("thin 3 1 1;").drift(1, 1, 1), 1);
        due("drift(1, 1, 1) from 2", told("thin 2 1 1;").drift(1, 1, 1), 0);
        due("drift(1, 2, 1) from 2: y more twice", told("thin 2 1 1;").drift(1, 2, 1), 1);
        due("drift(1, 2, 1) from 1", told("thin 1 1 1;").drift(1, 2, 1), 0);
        due("drift(1, 3, 1) from 1: y more three times", told("thin 1 1 1;").drift(1, 3, 1), 1);
        due("drift(1, 4, 1) from 40: still", told("thin 40 1 1;").drift(1, 4, 1), 0);
        due("drift(1, 5, 1) from 40: x more", told("thin 40 1 1;").drift(1, 5, 1), 1);
        due("drift(1, 5, 1) from 30: x more", told("thin 30 1 1;").drift(1, 5, 1), 0);
        Checks.sentence(35, "what SITTERS take (what 0), what is LOST in them (1)");
        due("drift(1, 1, 0) at 1", told("thin 0 1 1;sitter 1 1;").drift(1, 1, 0), 0);
        due("drift(1, 2, 0) at 1", told("thin 0 1 1;sitter 1 1;").drift(1, 2, 0), 1);
        due("drift(1, 5, 0) at 13", told("thin 0 1 1;sitter 13 1;").drift(1, 5, 0), 0);
        due("drift(1, 6, 0) at 13", told("thin 0 1 1;sitter 13 1;").drift(1, 6, 0), 1);
        // the airs as told are of no matter
        SmokeSeats x = told("thin 3 1 1;air 0 4;");
        due("drift(1, 1, 1) against AIR 0", x.drift(1, 1, 1), 1);
        due("air(0)", x.air(0), 4);
    }

    /** Where one thin LIFE goes by the seed, reckoned without an int's bounds. */
    private static int lostBehind(int seed, int cell, int n) {
        BigInteger two32 = BigInteger.ONE.shiftLeft(32);
        BigInteger s = BigInteger.valueOf(seed);
        int x = cell / 10;
        int y = cell % 10;
        for (int k = 0; k < n; k++) {
            s = s.multiply(BigInteger.valueOf(1103515245)).add(BigInteger.valueOf(12345)).mod(two32);
            int way = s.shiftRight(16).intValue() % 32768 % 5;
            x += way == 1 ? 1 : way == 2 ? -1 : 0;
            y += way == 3 ? 1 : way == 4 ? -1 : 0;
            if (x < 0 || x > 4 || y < 0 || y > 3) {
                return 1;
            }
        }
        return 0;
    }

    private static void driftWrapsAround() {
        Checks.sentence(35, "the seed becomes seed times 1103515245 and 12345");
        // the WAY by a seed, reckoned by hand; but for 0 and 1 the product goes over an int's bounds, on either side
        int[][] first = {{0, 0}, {1, 3}, {-1, 4}, {Checks.MOST, 4}, {Checks.LEAST, 0}, {2, 3}, {-2, 4}, {65536, 2}};
        int[] walls = {22, 42, 2, 23, 20};
        for (int[] f : first) {
            for (int way = 1; way <= 4; way++) {
                due("drift(" + f[0] + ", 1, 1) by the wall of WAY " + way,
                    told("thin " + walls[way] + " 1 1;").drift(f[0], 1, 1), f[1] == way ? 1 : 0);
            }
        }
        int[] seeds = {0, 1, -1, 2, -2, Checks.MOST, Checks.MOST - 1, Checks.LEAST, Checks.LEAST + 1, 1103515245,
            -1103515245, 65535, 65536, 1 << 30, -(1 << 30), 123456789, -987654321};
        for (int seed : seeds) {
            for (int cell : new int[] {0, 3, 40, 43, 22}) {
                SmokeSeats x = told("thin " + cell + " 1 1;");
                for (int n = 1; n <= 60; n++) {
                    due("drift(" + seed + ", " + n + ", 1) from " + cell, x.drift(seed, n, 1), lostBehind(seed, cell, n));
                }
            }
        }
    }

    private static void driftSteps() {
        Checks.sentence(35, "By itself, n STEPS (1 to 60) by a seed");
        SmokeSeats x = told("plain 22 1 99;sitter 22 1;sitter 0 0;");
        for (int n : new int[] {1, 2, 59, 60}) {
            due("drift(9, " + n + ", 0)", x.drift(9, n, 0), n);
            due("drift(9, " + n + ", 1)", x.drift(9, n, 1), 0);
        }
        due("drift(9, 0, 0)", x.drift(9, 0, 0), BAD);
        due("drift(9, 61, 0)", x.drift(9, 61, 0), BAD);
        due("drift(9, 1, 2)", x.drift(9, 1, 2), BAD);
        due("drift(9, 1, -1)", x.drift(9, 1, -1), BAD);
        due("STEP", x.rule(2), 0);
        // in them: neither what was HAD nor what was LOST ahead
        x.steps(9);
        due("drift(9, 60, 0) behind 9", x.drift(9, 60, 0), 60);
        x.seat(0, 1, 0);
        x.steps(9);
        x.open();
        x.alter(0, 3, 0);
        due("drift(9, 60, 0), all is gone", x.drift(9, 60, 0), 0);
        due("drift(9, 60, 1), all is gone", x.drift(9, 60, 1), 0);
        // at STEP 999 too: they only would be
        x = Evenings.at(999, "plain 22 1 0;sitter 22 1;");
        x.alter(0, 3, 99);
        due("drift(9, 60, 0) at 999", x.drift(9, 60, 0), 60);
        due("STEP", x.rule(2), 999);
    }

    private static void driftState() {
        Checks.sentence(35, "BAD; STATE: there are no LIVES");
        SmokeSeats x = new SmokeSeats();
        due("drift, a new object", x.drift(1, 60, 1), STATE);
        due("drift, n 0, BAD is the first that fits", x.drift(1, 0, 0), BAD);
        due("drift, n 61, BAD is the first that fits", x.drift(1, 61, 0), BAD);
        due("drift, what 2, BAD is the first that fits", x.drift(1, 1, 2), BAD);
        due("drift, what -1, BAD is the first that fits", x.drift(1, 1, -1), BAD);
        due("drift, SITTERS but no LIVES", Evenings.of(0, 4).drift(1, 1, 0), STATE);
        due("drift, one LIFE, nobody", Evenings.of(1, 0).drift(1, 1, 0), 0);
        due("drift, nothing LEFT", told("plain 0 1 0;").drift(1, 60, 1), 0);
        Probe none = new Probe(() -> {
            SmokeSeats s = Evenings.of(0, 3);
            s.steps(5);
            s.keep(1);
            return s;
        });
        none.unchangedBy("drift() without LIVES", s -> due("drift", s.drift(1, 60, 0), STATE));
    }
}
