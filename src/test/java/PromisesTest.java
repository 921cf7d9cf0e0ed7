/** For each promise of the document its ordinary inputs, its edges and wrong inputs. */
public final class PromisesTest {
    private static final int BAD = -1, STATE = -2, FULL = -3, NONE = -4;
    private static final int[] NO_NUMBERS = {-1, Integer.MIN_VALUE, Integer.MAX_VALUE};

    /** Two lives, two sitters, three airs, two prices. */
    private static final String EVENING = "plain 11 4 10;thin 30 3 6;sitter 21 2;sitter 32 9;"
        + "air 0 1;air 1 3;air 2 1;price 1 5;price 2 3;";

    public static void main(String[] args) {
        aNewObject();
        feed();
        end();
        text();
        textFaults();
        textOrderOfFaults();
        fault();
        rule();
        life();
        sitter();
        has();
        in();
        air();
        alter();
        seat();
        blow();
        price();
        open();
        steps();
        kindsMove();
        waysMove();
        sittersTake();
        runs();
        ahead();
        wet();
        over();
        best();
        cheap();
        clean();
        need();
        swap();
        fan();
        luck();
        mean();
        see();
        forget();
        kinds();
        froms();
        ask();
        drift();
        keep();
        back();
        backToSeen();
        sheet();
        lay();
        read();
        readRefused();
        torn();
        count();
        Checks.finish();
    }

    private static void due(String call, long got, long want) {
        Checks.due(call, got, want);
    }

    private static SmokeSeats told(String text) {
        return Checks.told(text);
    }

    // Promise 1
    private static void aNewObject() {
        SmokeSeats x = new SmokeSeats();
        for (int what = 0; what <= 5; what++) {
            due("new rule " + what, x.rule(what), 0);
        }
        for (int k = 0; k <= 5; k++) {
            due("new air " + k, x.air(k), 0);
        }
        for (int y = 0; y <= 3; y++) {
            due("new price " + y, x.price(y, 0), 0);
        }
        due("new life", x.life(0, 0), BAD);
        due("new sitter", x.sitter(0, 0), BAD);
        due("new seen", x.count(0), 0);
        due("new images", x.count(1), 0);
        due("new tape", x.count(2), 0);
        due("new sheet 0", x.count(3), NONE);
        for (int k = 0; k <= 3; k++) {
            due("new sheet " + k, x.lay(k, 0, 0), -11);
        }
        due("new back", x.back(0), STATE);
        due("new fault", x.fault(), 0);
        due("new torn", x.torn(), 0);
        due("new steps", x.steps(30), 0);
        due("new STEP", x.rule(2), 30);
    }

    // Promise 2
    private static void feed() {
        SmokeSeats x = new SmokeSeats();
        due("feed 128", x.feed(128), BAD);
        for (int no : NO_NUMBERS) {
            due("feed " + no, x.feed(no), BAD);
        }
        for (int k = 1; k <= 160; k++) {
            due("feed the byte " + k, x.feed(k == 1 ? 0 : k == 2 ? 127 : 32), k);
        }
        due("feed 161", x.feed(32), FULL);
        due("feed 161, BAD", x.feed(128), BAD);
        due("feed: bytes", x.count(2), 160);
        due("feed: the first byte", x.text(), -10);
    }

    // Promise 3
    private static void end() {
        SmokeSeats x = new SmokeSeats();
        due("end of none", x.end(0), 0);
        due("end of none, 1", x.end(1), BAD);
        for (char c : "air 0 1;x".toCharArray()) {
            x.feed(c);
        }
        due("end 10 of 9", x.end(10), BAD);
        for (int no : NO_NUMBERS) {
            due("end " + no, x.end(no), BAD);
        }
        due("end 9 of 9", x.end(9), 9);
        due("end 8 of 9", x.end(8), 9);
        due("end: bytes", x.count(2), 8);
        due("end: the text", x.text(), 1);
        due("end: air", x.air(0), 1);
    }

    // Promise 4
    private static void text() {
        SmokeSeats x = new SmokeSeats();
        due("text, empty", x.text(), 0);
        due("text", Checks.tell(x, EVENING), 9);
        due("text: the tape", x.count(2), 0);
        due("text: lives", x.rule(0), 2);
        due("text: sitters", x.rule(1), 2);
        due("text: air 5", x.air(5), 0);
        x.steps(3);
        x.see(0, 0, 1, 1);
        x.keep(0);
        x.keep(1);
        x.sheet(0, 0, 7);
        due("text, refused", Checks.tell(x, "air 0 4;air 1"), -23);
        due("text, refused: the tape", x.count(2), 0);
        due("text, refused: air", x.air(0), 1);
        due("text, refused: STEP", x.rule(2), 3);
        due("text, refused: seen", x.count(0), 1);
        due("text, refused: images", x.count(1), 2);
        due("text, another", Checks.tell(x, "   happy 43 9 99;sitter03 09  ; price 3 9 ;air 5 4;  "), 4);
        due("text, another: lives", x.rule(0), 1);
        due("text, another: kind", x.life(0, 0), 3);
        due("text, another: at", x.life(0, 1), 43);
        due("text, another: pace", x.life(0, 2), 9);
        due("text, another: left", x.life(0, 3), 99);
        due("text, another: sitter", x.sitter(0, 0), 3);
        due("text, another: sleeve", x.sitter(0, 1), 9);
        due("text, another: price", x.sitter(0, 3), 9);
        due("text, another: price of row 1", x.price(1, 0), 0);
        due("text, another: air 0", x.air(0), 0);
        due("text, another: air 5", x.air(5), 4);
        for (int what = 2; what <= 5; what++) {
            due("text, another: rule " + what, x.rule(what), 0);
        }
        due("text, another: has", x.has(0, 0), 0);
        due("text, another: seen", x.count(0), 0);
        due("text, another: images", x.count(1), 0);
        due("text, another: back", x.back(1), STATE);
        due("text, another: sheet 0", x.count(3), 7);
        due("text, most", Checks.tell(x, "plain 0 1 0;heavy 0 1 0;thin 0 1 0;sitter 0 0;sitter 0 0;sitter 0 0;"
            + "sitter 0 0;air 0 1;air 1 1;air 2 1;air 3 1;air 4 1;air 5 1;price 0 0;price 1 1;"), 15);
        due("text, most: kinds", x.life(0, 0) + 10 * x.life(1, 0) + 100 * x.life(2, 0), 210);
        // nothing of an evening that was tried out, or of more lives and sitters, is left behind
        x = told("plain 11 9 99;plain 11 9 99;plain 11 9 99;sitter 11 1;sitter 11 1;sitter 11 1;sitter 11 1;air 0 1;"
            + "price 1 9;price 0 1;");
        x.runs(60, 0);
        x.steps(2);
        x.open();
        x.steps(5);
        x.runs(3, 0);
        due("text, fewer", Checks.tell(x, "thin 11 1 1;sitter 21 1;"), 2);
        int[] fewer = {1, 1, 0, 0, 0, 0};
        for (int what = 0; what < fewer.length; what++) {
            due("text, fewer: rule " + what, x.rule(what), fewer[what]);
        }
        due("text, fewer: in 11", x.in(11, 0), 0);
        due("text, fewer: lost", x.life(0, 5), 0);
        due("text, fewer: has", x.life(0, 6) + x.has(0, 0), 0);
        due("text, fewer: air", x.air(0), 0);
        due("text, fewer: left", x.count(4), 1);
        due("text, fewer: prices", x.count(5), 0);
        x.steps(3);
        due("text, fewer: in 11 then", x.in(11, 0), 1);
        due("text, fewer: all then", x.rule(3) + x.rule(4) + x.rule(5), 1);
        due("text, fewer: over", x.over(), NONE);
        due("text, empty again", x.text(), 0);
        due("text, empty again: lives", x.rule(0), 0);
        due("text, empty again: sitters", x.rule(1), 0);
    }

    private static void faulty(String text, int place, int fault) {
        SmokeSeats x = told(EVENING);
        due("text of '" + text + "'", Checks.tell(x, text), -10 - place);
        due("fault of '" + text + "'", x.fault(), fault);
        due("lives behind '" + text + "'", x.rule(0), 2);
        due("tape behind '" + text + "'", x.count(2), 0);
    }

    private static void textFaults() {
        faulty("!", 0, 1);
        faulty("air 0 1;A", 8, 1);
        faulty("air 0 1\t;", 7, 1);
        faulty("air 0 1,", 7, 1);
        faulty("air 000 1;", 4, 1);
        faulty("  123", 2, 1);
        faulty("air 12345678901234567890 1;", 4, 1);
        faulty("nobody 1 2;", 0, 2);
        faulty("airs 1 2;", 0, 2);
        faulty("dir 1 2;", 0, 2);
        faulty("aim 1 2;", 0, 2);
        faulty("z", 0, 2);
        faulty("airz 1 2;", 0, 2);
        faulty("{", 0, 1);
        faulty("`", 0, 1);
        faulty("air / 2;", 4, 1);
        faulty("air : 2;", 4, 1);
        faulty("ai 1 2;", 0, 2);
        faulty("plainthin 1 1 1;", 0, 2);
        faulty(";", 0, 2);
        faulty("12;", 0, 2);
        faulty("air 0 1;;", 8, 2);
        faulty("air 0 1 1;", 8, 2);
        faulty("air 0 1 air 1 1;", 8, 2);
        faulty("air;", 3, 2);
        faulty("air air 1;", 4, 2);
        faulty("air 0 ;", 6, 2);
        faulty("air", 3, 2);
        faulty("air 0  ", 7, 2);
        faulty("air 0 1", 7, 2);
        faulty("sitter 0 0 0;", 11, 2);
        faulty("price 0;", 7, 2);
        faulty("plain 4 1 1;", 6, 3);
        faulty("plain 34 1 1;", 6, 3);
        faulty("plain 50 1 1;", 6, 3);
        faulty("plain 99 1 1;", 6, 3);
        faulty("plain 0 0 1;", 8, 3);
        faulty("plain 0 10 1;", 8, 3);
        faulty("sitter 44 1;", 7, 3);
        faulty("sitter 43 10;", 10, 3);
        faulty("air 6 0;", 4, 3);
        faulty("air 5 5;", 6, 3);
        faulty("price 4 0;", 6, 3);
        faulty("price 3 10;", 8, 3);
        faulty("air 3 0;air 3 0;", 12, 4);
        faulty("price 2 0;price 02 0;", 16, 4);
        faulty("plain 0 1 1;plain 0 1 1;happy 0 1 1;thin 0 1 1;", 36, 5);
        faulty("sitter 0 1;sitter 0 1;sitter 0 1;sitter 0 1; sitter 0 1;", 45, 5);
    }

    /** A fault of a TOKEN is met ahead of all that stands behind it. */
    private static void textOrderOfFaults() {
        faulty("nobody !", 0, 2);
        faulty("air 6!", 4, 3);
        faulty("air 6", 4, 3);
        faulty("air 1 1;air 1!", 12, 4);
        faulty("air 1 1;air 7 1;", 12, 3);
        faulty("air 1 1;air 001 1;", 12, 1);
        faulty("air 0 1;air 1 9;air 0 1;", 14, 3);
        faulty("plain 0 1 1;plain 0 1 1;happy 0 1 1;thin!", 36, 5);
        faulty("plain 0 1 1;plain 0 1 1;happy 0 1 1;thin", 36, 5);
        faulty("air 1 123", 6, 1);
        faulty("123 air", 0, 1);
    }

    // Promise 5
    private static void fault() {
        SmokeSeats x = new SmokeSeats();
        due("fault ahead of any", x.fault(), 0);
        Checks.tell(x, "!");
        due("fault", x.fault(), 1);
        due("fault again", x.fault(), 1);
        x.feed(';');
        due("fault ahead of the next", x.fault(), 1);
        x.text();
        due("fault of the next", x.fault(), 2);
        x.text();
        due("fault of a text that is taken", x.fault(), 0);
    }

    // Promise 6
    private static void rule() {
        SmokeSeats x = told(EVENING);
        x.steps(3);
        int[] want = {2, 2, 3, 11, 3, 2};
        for (int what = 0; what < want.length; what++) {
            due("rule " + what, x.rule(what), want[what]);
        }
        due("rule 6", x.rule(6), BAD);
        for (int no : NO_NUMBERS) {
            due("rule " + no, x.rule(no), BAD);
        }
    }

    // Promise 7
    private static void life() {
        SmokeSeats x = told(EVENING);
        x.steps(3);
        int[][] want = {{0, 11, 4, 0, 8, 0, 2}, {2, 30, 3, 0, 3, 3, 0}};
        for (int l = 0; l < want.length; l++) {
            for (int what = 0; what < want[l].length; what++) {
                due("life " + l + " " + what, x.life(l, what), want[l][what]);
            }
        }
        due("life 2", x.life(2, 0), BAD);
        due("life 0 7", x.life(0, 7), BAD);
        for (int no : NO_NUMBERS) {
            due("life " + no, x.life(no, 0), BAD);
            due("life 0 " + no, x.life(0, no), BAD);
        }
    }

    // Promise 8
    private static void sitter() {
        SmokeSeats x = told(EVENING);
        x.steps(2);
        int[][] want = {{21, 2, 2, 5}, {32, 9, 0, 3}};
        for (int i = 0; i < want.length; i++) {
            for (int what = 0; what < want[i].length; what++) {
                due("sitter " + i + " " + what, x.sitter(i, what), want[i][what]);
            }
        }
        due("sitter 2", x.sitter(2, 0), BAD);
        due("sitter 0 4", x.sitter(0, 4), BAD);
        for (int no : NO_NUMBERS) {
            due("sitter " + no, x.sitter(no, 0), BAD);
            due("sitter 0 " + no, x.sitter(0, no), BAD);
        }
    }

    // Promise 9
    private static void has() {
        SmokeSeats x = told(EVENING);
        due("has at first", x.has(0, 0), 0);
        x.steps(2);
        due("has 0 0", x.has(0, 0), 2);
        due("has 0 1", x.has(0, 1), 0);
        due("has 1 0", x.has(1, 0), 0);
        due("has 2 0", x.has(2, 0), BAD);
        due("has 0 2", x.has(0, 2), BAD);
        for (int no : NO_NUMBERS) {
            due("has " + no, x.has(no, 0), BAD);
            due("has 0 " + no, x.has(0, no), BAD);
        }
    }

    // Promise 10
    private static void in() {
        SmokeSeats x = told(EVENING);
        due("in at first", x.in(11, 0), 0);
        x.steps(3);
        int sum = 0;
        int cells = 0;
        for (int name = -5; name < 60; name++) {
            int much = x.in(name, 0);
            sum += Math.max(much, 0);
            cells += much == BAD ? 0 : 1;
        }
        due("in: cells", cells, 20);
        due("in: all", sum, 8);
        due("in 11", x.in(11, 0), 2);
        due("in 21", x.in(21, 0), 3);
        due("in 12", x.in(12, 0), 1);
        due("in 22", x.in(22, 0), 2);
        due("in 41 1", x.in(41, 1), 3);
        due("in 4", x.in(4, 0), BAD);
        due("in 50", x.in(50, 0), BAD);
        due("in 11 2", x.in(11, 2), BAD);
        for (int no : NO_NUMBERS) {
            due("in " + no, x.in(no, 0), BAD);
            due("in 0 " + no, x.in(0, no), BAD);
        }
    }

    // Promise 11
    private static void air() {
        SmokeSeats x = told("air 0 4;air 3 3;air 5 1;");
        int[] want = {4, 0, 0, 3, 0, 1};
        for (int k = 0; k < want.length; k++) {
            due("air " + k, x.air(k), want[k]);
        }
        due("air 6", x.air(6), BAD);
        for (int no : NO_NUMBERS) {
            due("air " + no, x.air(no), BAD);
        }
    }

    // Promise 12
    private static void alter() {
        SmokeSeats x = told("plain 0 1 1;heavy 12 5 50;");
        int[] was = {1, 12, 5, 50};
        int[] to = {3, 43, 9, 99};
        for (int what = 0; what < was.length; what++) {
            due("alter 1 " + what, x.alter(1, what, to[what]), was[what]);
            due("alter 1 " + what + ": then", x.life(1, what), to[what]);
        }
        int[][] no = {{0, 4}, {1, 4}, {1, 44}, {1, 50}, {2, 0}, {2, 10}, {3, 100}, {4, 0}};
        for (int[] pair : no) {
            due("alter 1 " + pair[0] + " to " + pair[1], x.alter(1, pair[0], pair[1]), BAD);
        }
        for (int n : NO_NUMBERS) {
            due("alter life " + n, x.alter(n, 0, 0), BAD);
            due("alter what " + n, x.alter(0, n, 0), BAD);
            for (int what = 0; what < was.length; what++) {
                due("alter 1 " + what + " to " + n, x.alter(1, what, n), BAD);
            }
        }
        due("alter life 2", x.alter(2, 0, 0), BAD);
        for (int what = 0; what < was.length; what++) {
            due("alter, refused: " + what, x.life(1, what), to[what]);
        }
        due("alter: life 0", x.life(0, 1), 0);
        due("alter to the least", x.alter(1, 0, 0) + x.alter(1, 1, 0) + x.alter(1, 2, 1) + x.alter(1, 3, 0), 154);
        due("alter: steps", x.steps(2), 0);
        due("alter: in", x.in(0, 0), 1);
    }

    // Promise 13
    private static void seat() {
        SmokeSeats x = told("sitter 0 1;sitter 12 5;");
        due("seat 1 0", x.seat(1, 0, 43), 12);
        due("seat 1 0: then", x.sitter(1, 0), 43);
        due("seat 1 0 again", x.seat(1, 0, 0), 43);
        due("seat 1 1", x.seat(1, 1, 9), 5);
        due("seat 1 1: then", x.sitter(1, 1), 9);
        due("seat 1 1 to 0", x.seat(1, 1, 0), 9);
        int[][] no = {{0, 4}, {0, 14}, {0, 50}, {1, 10}, {2, 0}};
        for (int[] pair : no) {
            due("seat 1 " + pair[0] + " to " + pair[1], x.seat(1, pair[0], pair[1]), BAD);
        }
        for (int n : NO_NUMBERS) {
            due("seat of " + n, x.seat(n, 0, 0), BAD);
            due("seat what " + n, x.seat(0, n, 0), BAD);
            due("seat 1 0 to " + n, x.seat(1, 0, n), BAD);
            due("seat 1 1 to " + n, x.seat(1, 1, n), BAD);
        }
        due("seat of 2", x.seat(2, 0, 0), BAD);
        due("seat: sitter 0", x.sitter(0, 1), 1);
    }

    // Promise 14
    private static void blow() {
        SmokeSeats x = new SmokeSeats();
        due("blow 0", x.blow(0, 4), 0);
        due("blow 0 again", x.blow(0, 2), 4);
        due("blow 5", x.blow(5, 1), 0);
        due("blow: air 0", x.air(0), 2);
        due("blow: air 1", x.air(1), 0);
        due("blow 6", x.blow(6, 0), BAD);
        due("blow to 5", x.blow(0, 5), BAD);
        for (int n : NO_NUMBERS) {
            due("blow " + n, x.blow(n, 0), BAD);
            due("blow to " + n, x.blow(0, n), BAD);
        }
        due("blow, refused", x.air(0), 2);
    }

    // Promise 15
    private static void price() {
        SmokeSeats x = told("sitter 23 1;");
        due("price 3", x.price(3, 9), 0);
        due("price 3: sitter", x.sitter(0, 3), 9);
        due("price 3 again", x.price(3, 1), 9);
        due("price 0", x.price(0, 5), 0);
        due("price: sitter", x.sitter(0, 3), 1);
        due("price 4", x.price(4, 0), BAD);
        due("price to 10", x.price(3, 10), BAD);
        for (int n : NO_NUMBERS) {
            due("price " + n, x.price(n, 0), BAD);
            due("price to " + n, x.price(3, n), BAD);
        }
        due("price, refused", x.sitter(0, 3), 1);
    }

    // Promise 16
    private static void open() {
        SmokeSeats x = told(EVENING);
        due("open at first", x.open(), 0);
        x.steps(3);
        due("open", x.open(), 11);
        due("open: in cells", x.rule(3), 0);
        due("open: in 11", x.in(11, 0), 0);
        due("open: lost", x.rule(4), 14);
        due("open: lost of 0", x.life(0, 5), 8);
        due("open: lost of 1", x.life(1, 5), 6);
        due("open: has", x.rule(5), 2);
        due("open: STEP", x.rule(2), 3);
        due("open again", x.open(), 0);
        due("open: steps", x.steps(30), 0);
    }

    // Promise 17
    private static void steps() {
        SmokeSeats x = told(EVENING);
        due("steps 0", x.steps(0), 0);
        due("steps 1", x.steps(1), 0);
        due("steps: in 21", x.in(21, 0), 2);
        due("steps: left", x.life(0, 3), 6);
        due("steps 2", x.steps(2), 2);
        due("steps 31", x.steps(31), BAD);
        for (int n : NO_NUMBERS) {
            due("steps " + n, x.steps(n), BAD);
        }
        due("steps: STEP", x.rule(2), 3);
        for (int k = 0; k < 33; k++) {
            x.steps(30);
        }
        due("steps: STEP 993", x.rule(2), 993);
        due("steps to 1000", x.steps(7), FULL);
        due("steps 31 behind it", x.steps(31), BAD);
        due("steps: STEP still", x.rule(2), 993);
        due("steps to 999", x.steps(6), 0);
        due("steps: STEP 999", x.rule(2), 999);
        due("steps 0 at 999", x.steps(0), 0);
        due("steps 1 at 999", x.steps(1), FULL);
        due("runs behind 999", x.runs(60, 0), x.rule(5));
    }

    private static void moves(String kind, int much, int stays) {
        SmokeSeats x = told(kind + " 20 " + Math.min(much, 9) + " " + Math.min(much, 9) + ";air 1 1;");
        x.steps(1);
        if (much > 9) {
            x.alter(0, 3, much - 9);
            x.alter(0, 2, 9);
        }
        x.steps(1);
        due(kind + " of " + much + " stays", x.in(20, 0), stays);
        due(kind + " of " + much + " moves", x.in(30, 0), much - stays);
        due(kind + " of " + much + " in all", x.rule(3), much);
    }

    private static void kindsMove() {
        int[][] plain = {{1, 0}, {2, 1}, {3, 1}, {4, 2}, {9, 4}, {18, 9}};
        int[][] heavy = {{1, 1}, {2, 2}, {3, 2}, {4, 3}, {5, 4}, {6, 5}, {7, 5}, {9, 7}, {18, 14}};
        int[][] thin = {{1, 0}, {2, 0}, {9, 0}, {18, 0}};
        int[][] happy = {{1, 0}, {2, 1}, {3, 1}, {4, 2}, {5, 3}, {7, 4}, {9, 6}, {18, 13}};
        for (int[] m : plain) {
            moves("plain", m[0], m[1]);
        }
        for (int[] m : heavy) {
            moves("heavy", m[0], m[1]);
        }
        for (int[] m : thin) {
            moves("thin", m[0], m[1]);
        }
        for (int[] m : happy) {
            moves("happy", m[0], m[1]);
        }
    }

    private static void waysMove() {
        int[] next = {12, 22, 2, 13, 11};
        int[] border = {12, 42, 2, 13, 10};
        for (int way = 0; way <= 4; way++) {
            SmokeSeats x = told("plain 12 9 9;");
            x.blow(0, way);
            x.steps(1);
            due("way " + way + ": stays", x.in(12, 0), way == 0 ? 9 : 4);
            due("way " + way + ": moves", x.in(next[way], 0), way == 0 ? 9 : 5);
            x = told("thin 0 2 4;");
            x.alter(0, 1, border[way]);
            x.blow(0, way);
            x.blow(1, way);
            x.steps(1);
            due("way " + way + ": lost by the wall", x.rule(4), way == 0 ? 0 : 2);
            x.steps(1);
            due("way " + way + ": lost again", x.life(0, 5), way == 0 ? 0 : 4);
        }
        // a whole row moves at once: nothing is carried twice in a STEP
        SmokeSeats y = told("plain 0 8 8;air 0 1;air 1 1;air 2 1;");
        y.steps(3);
        int[] want = {1, 3, 3, 1, 0};
        for (int k = 0; k < want.length; k++) {
            due("at once " + k, y.in(10 * k, 0), want[k]);
        }
        y = told("thin 10 3 3;air 0 2;air 1 2;");
        y.steps(1);
        due("into the first cell", y.in(0, 0), 3);
        y.steps(1);
        due("out of the first cell", y.life(0, 5), 3);
        // the seventh STEP goes by AIR 0 again
        y = told("thin 22 1 9;air 0 1;");
        y.steps(6);
        due("air 0", y.in(32, 0), 1);
        due("airs 1 to 5", y.in(22, 0), 5);
        y.steps(1);
        due("air 6 modulo 6", y.in(32, 0), 6);
        due("air 6 modulo 6, on", y.in(42, 0), 1);
    }

    private static void sittersTake() {
        // what is told in the STEP is taken ahead of its air
        SmokeSeats x = told("plain 22 3 9;thin 22 4 9;sitter 22 5;sitter 22 1;sitter 22 0;sitter 22 9;air 0 1;");
        due("taken", x.steps(1), 7);
        due("taken by 0 of 0", x.has(0, 0), 3);
        due("taken by 0 of 1", x.has(0, 1), 2);
        due("taken by 1 of 0", x.has(1, 0), 0);
        due("taken by 1 of 1", x.has(1, 1), 1);
        due("taken by 2", x.sitter(2, 2), 0);
        due("taken by 3 of 1", x.has(3, 1), 1);
        due("taken: in cells", x.rule(3), 0);
    }

    // Promise 18
    private static void runs() {
        SmokeSeats x = told(EVENING);
        int[][] want = {{0, 0, 0, NONE}, {0, 0, 7, NONE}, {2, 0, 12, 2}, {2, 3, 11, 2}};
        for (int n = 0; n < want.length; n++) {
            for (int what = 0; what < 4; what++) {
                due("runs " + n + " " + what, x.runs(n, what), want[n][what]);
            }
        }
        due("runs 60", x.runs(60, 0) + x.runs(60, 1) + x.runs(60, 2), 16);
        due("runs: STEP", x.rule(2), 0);
        due("runs: in", x.rule(3), 0);
        x.steps(2);
        due("runs from 2 on, 3", x.runs(1, 3), NONE);
        due("runs from 2 on, 3, farther", x.runs(60, 3), 2);
        due("runs, one alone is taken", told("plain 0 1 1;sitter 1 1;sitter 0 1;").runs(9, 3), 1);
        due("runs 61", x.runs(61, 0), BAD);
        due("runs what 4", x.runs(1, 4), BAD);
        for (int n : NO_NUMBERS) {
            due("runs " + n, x.runs(n, 0), BAD);
            due("runs what " + n, x.runs(0, n), BAD);
        }
    }

    // Promise 19
    private static void ahead() {
        SmokeSeats x = told(EVENING);
        due("ahead 0", x.ahead(0, 0, 0), 0);
        due("ahead 1", x.ahead(0, 0, 1), 0);
        due("ahead 2", x.ahead(0, 0, 2), 2);
        due("ahead 60 of 1", x.ahead(1, 1, 60), 0);
        due("ahead: has", x.has(0, 0), 0);
        due("ahead 61", x.ahead(0, 0, 61), BAD);
        due("ahead of 2", x.ahead(2, 0, 0), BAD);
        due("ahead of life 2", x.ahead(0, 2, 0), BAD);
        for (int n : NO_NUMBERS) {
            due("ahead " + n, x.ahead(0, 0, n), BAD);
            due("ahead of " + n, x.ahead(n, 0, 0), BAD);
            due("ahead of life " + n, x.ahead(0, n, 0), BAD);
        }
        x.steps(2);
        due("ahead 0 from 2 on", x.ahead(0, 0, 0), 2);
    }

    // Promise 20
    private static void wet() {
        SmokeSeats x = told(EVENING);
        due("wet 0 0", x.wet(0, 0), 2);
        due("wet 1 0", x.wet(1, 0), 8);
        due("wet 1 1", x.wet(1, 1), NONE);
        due("wet: STEP", x.rule(2), 0);
        x.steps(2);
        due("wet again", x.wet(0, 0), x.runs(60, 3));
        due("wet of 2", x.wet(2, 0), BAD);
        due("wet of life 2", x.wet(0, 2), BAD);
        for (int n : NO_NUMBERS) {
            due("wet of " + n, x.wet(n, 0), BAD);
            due("wet of life " + n, x.wet(0, n), BAD);
        }
        // thin, by AIR 0 alone: STEP 0, 6, 12, 18, and taken in the STEP behind
        x = told("thin 0 1 1;sitter 40 1;air 0 1;");
        due("wet behind 20", x.wet(0, 0), 20);
        // of life 0 a STEP takes all that he can: life 1 comes when it is told to its end, at STEP 60
        x = told("plain 0 1 59;plain 0 1 99;sitter 0 1;");
        due("wet at 60", x.wet(0, 1), 60);
        x = told("plain 0 1 60;plain 0 1 99;sitter 0 1;");
        due("wet behind 60", x.wet(0, 1), NONE);
        x.steps(1);
        due("wet at 60 from 1 on", x.wet(0, 1), 60);
    }

    // Promise 21
    private static void over() {
        SmokeSeats x = new SmokeSeats();
        due("over, empty", x.over(), 0);
        x = told("plain 0 1 0;sitter 0 9;");
        due("over, told", x.over(), 0);
        x = told("plain 0 1 60;sitter 0 1;");
        due("over at 60", x.over(), 60);
        x = told("plain 0 1 61;sitter 0 1;");
        due("over behind 60", x.over(), NONE);
        x.steps(1);
        due("over at 60 from 1 on", x.over(), 60);
        due("over: STEP", x.rule(2), 1);
        x = told("plain 0 9 9;");
        due("over, in the air for good", x.over(), NONE);
        x = told("plain 0 1 3;sitter 0 9;thin 43 1 1;sitter 43 9;");
        due("over of the last", x.over(), 3);
        due("over of the evening", told(EVENING).over(), 14);
    }

    // Promise 22
    private static void best() {
        SmokeSeats x = told("thin 22 3 9;sitter 0 9;sitter 22 1;air 0 1;air 1 1;air 2 1;");
        // at 22 he comes ahead of sitter 1 and has all
        due("best", x.best(0, 0, 3), 22);
        due("best behind 0", x.best(0, 0, 0), 0);
        // sitter 1 has 1 at most of a STEP: at 22, 32, 42 3, 2, 1
        due("best of 1", x.best(1, 0, 3), 22);
        x.seat(0, 0, 22);
        x.seat(0, 1, 2);
        due("best of 1 of what 0 leaves", x.best(1, 0, 2), 22);
        due("best of 1, of several", x.best(1, 0, 1), 22);
        x.seat(0, 1, 9);
        due("best of 1 where 0 takes all", x.best(1, 0, 9), 0);
        due("best: in", x.sitter(0, 0), 22);
        due("best: in of 1", x.sitter(1, 0), 22);
        due("best 61", x.best(0, 0, 61), BAD);
        due("best of 2", x.best(2, 0, 0), BAD);
        due("best of life 1", x.best(0, 1, 0), BAD);
        for (int n : NO_NUMBERS) {
            due("best " + n, x.best(0, 0, n), BAD);
            due("best of " + n, x.best(n, 0, 0), BAD);
            due("best of life " + n, x.best(0, n, 0), BAD);
        }
        x = told("thin 12 1 1;sitter 0 9;air 0 3;");
        due("best, the first of two", x.best(0, 0, 9), 12);
        x = told("thin 12 1 1;sitter 0 9;air 0 4;");
        due("best, the first of the next two", x.best(0, 0, 6), 11);
    }

    // Promise 23
    private static void cheap() {
        // at 11 he has 1 of it, at 12 and at 13 5
        SmokeSeats x = told("thin 11 5 5;sitter 0 1;air 0 3;price 0 9;price 1 4;price 2 4;price 3 2;");
        due("cheap 1", x.cheap(0, 0, 1), 13);
        due("cheap 5", x.cheap(0, 0, 5), 13);
        due("cheap 6", x.cheap(0, 0, 6), NONE);
        x.price(3, 4);
        due("cheap 1, of several", x.cheap(0, 0, 1), 11);
        due("cheap 2, of several", x.cheap(0, 0, 2), 12);
        x.price(2, 5);
        due("cheap 2, of two", x.cheap(0, 0, 2), 13);
        due("cheap 999", x.cheap(0, 0, 999), NONE);
        due("cheap 0", x.cheap(0, 0, 0), BAD);
        due("cheap 1000", x.cheap(0, 0, 1000), BAD);
        due("cheap of 1", x.cheap(1, 0, 1), BAD);
        due("cheap of life 1", x.cheap(0, 1, 1), BAD);
        due("cheap: in", x.sitter(0, 0), 0);
        for (int n : NO_NUMBERS) {
            due("cheap " + n, x.cheap(0, 0, n), BAD);
            due("cheap of " + n, x.cheap(n, 0, 1), BAD);
            due("cheap of life " + n, x.cheap(0, n, 1), BAD);
        }
        // what he has counts: the first of the cheapest row
        x = told("plain 0 9 9;sitter 0 9;price 0 1;price 1 1;");
        x.steps(1);
        due("cheap, has it", x.cheap(0, 0, 9), 2);
        due("cheap, has not", x.cheap(0, 0, 10), NONE);
        due("cheap, the first cell at the highest price", told("plain 0 1 1;sitter 1 1;price 0 9;").cheap(0, 0, 1), 0);
        // 30 STEPS, and not one more
        x = told("plain 21 1 99;sitter 0 1;");
        due("cheap 30", x.cheap(0, 0, 30), 21);
        due("cheap more than 30", x.cheap(0, 0, 31), NONE);
    }

    // Promise 24
    private static void clean() {
        SmokeSeats x = told("thin 0 2 9;sitter 0 9;air 0 1;");
        due("clean", x.clean(0, 1, 0), 1);
        due("clean, how much", x.clean(0, 1, 1), 0);
        due("clean 0", x.clean(0, 0, 0), 0);
        due("clean: in", x.sitter(0, 0), 0);
        due("clean: STEP", x.rule(2), 0);
        due("clean 61", x.clean(0, 61, 0), BAD);
        due("clean what 2", x.clean(0, 1, 2), BAD);
        due("clean of 1", x.clean(1, 1, 0), BAD);
        for (int n : NO_NUMBERS) {
            due("clean " + n, x.clean(0, n, 0), BAD);
            due("clean of " + n, x.clean(n, 0, 0), BAD);
            due("clean what " + n, x.clean(0, 0, n), BAD);
        }
        // all cells have some: he is least in a cell of one
        x = told("plain 0 9 9;plain 0 9 9;sitter 43 9;");
        for (int c = 0; c < 20; c++) {
            x.alter(0, 1, c / 4 * 10 + c % 4);
            x.alter(0, 3, c == 6 ? 1 : 4);
            x.alter(1, 1, c / 4 * 10 + c % 4);
            x.alter(1, 3, c == 3 ? 1 : 3);
            x.seat(0, 0, c == 0 ? 1 : 0);
            x.seat(0, 1, 0);
            x.steps(1);
        }
        x.seat(0, 1, 9);
        due("clean of all lives", x.clean(0, 1, 0), 12);
        due("clean of all lives, how much", x.clean(0, 1, 1), 4);
        x.steps(1);
        due("clean, what he had does not count", x.clean(0, 3, 1), 0);
        due("clean, where he has been", x.clean(0, 3, 0), 0);
    }

    // Promise 25
    private static void need() {
        SmokeSeats x = told("plain 0 4 40;sitter 0 0;");
        due("need 1", x.need(0, 0, 1), 1);
        due("need 30", x.need(0, 0, 30), 1);
        due("need 31", x.need(0, 0, 31), 2);
        due("need 40", x.need(0, 0, 40), 2);
        due("need 41", x.need(0, 0, 41), NONE);
        due("need 999", x.need(0, 0, 999), NONE);
        due("need: sleeve", x.sitter(0, 1), 0);
        due("need 0", x.need(0, 0, 0), BAD);
        due("need 1000", x.need(0, 0, 1000), BAD);
        due("need of 1", x.need(1, 0, 1), BAD);
        due("need of life 1", x.need(0, 1, 1), BAD);
        for (int n : NO_NUMBERS) {
            due("need " + n, x.need(0, 0, n), BAD);
            due("need of " + n, x.need(n, 0, 1), BAD);
            due("need of life " + n, x.need(0, n, 1), BAD);
        }
        x.seat(0, 1, 5);
        x.steps(2);
        due("need of what he has", x.need(0, 0, 8), 0);
        due("need of more", x.need(0, 0, 9), 1);
        x = told("thin 0 9 9;sitter 0 0;air 0 2;");
        due("need 9", x.need(0, 0, 9), 9);
    }

    // Promise 26
    private static void swap() {
        SmokeSeats x = told("plain 22 9 90;sitter 22 1;sitter 0 5;sitter 1 7;sitter 2 7;");
        due("swap", x.swap(2, 0), 2);
        due("swap, how much", x.swap(2, 1), 14);
        due("swap 0", x.swap(0, 0), NONE);
        due("swap 0, how much", x.swap(0, 1), NONE);
        due("swap: in", x.sitter(0, 0), 22);
        due("swap: in of 2", x.sitter(2, 0), 1);
        x.seat(0, 1, 9);
        due("swap, not more", x.swap(9, 0), NONE);
        due("swap, not more, how much", x.swap(9, 1), NONE);
        due("swap 61", x.swap(61, 0), BAD);
        due("swap what 2", x.swap(1, 2), BAD);
        for (int n : NO_NUMBERS) {
            due("swap " + n, x.swap(n, 0), BAD);
            due("swap what " + n, x.swap(0, n), BAD);
        }
        // what they have already counts in how much
        x = told("plain 22 4 90;sitter 0 9;sitter 22 1;");
        x.steps(3);
        due("swap of one and the other", x.swap(1, 0), 1);
        due("swap of one and the other, how much", x.swap(1, 1), 12);
        x = told("plain 22 4 90;sitter 0 0;sitter 1 9;sitter 2 9;sitter 22 1;");
        due("swap of 1 and 3", x.swap(1, 0), 13);
        x.seat(1, 1, 2);
        due("swap of 2 and 3", x.swap(1, 0), 23);
        due("swap, nobody", told("plain 0 1 1;").swap(9, 0), NONE);
        due("swap, one alone", told("plain 0 1 1;sitter 1 1;").swap(9, 0), NONE);
    }

    // Promise 27
    private static void fan() {
        SmokeSeats x = told("thin 22 5 9;sitter 32 9;sitter 22 0;");
        due("fan", x.fan(0, 2, 0), 1);
        due("fan, how much", x.fan(0, 2, 1), 5);
        due("fan 3", x.fan(0, 3, 0), 11);
        due("fan 3, how much", x.fan(0, 3, 1), 9);
        due("fan 1", x.fan(0, 1, 0), NONE);
        due("fan 1, how much", x.fan(0, 1, 1), NONE);
        due("fan: air", x.air(0) + x.air(1), 0);
        due("fan of 1", x.fan(1, 9, 0), NONE);
        due("fan 61", x.fan(0, 61, 0), BAD);
        due("fan what 2", x.fan(0, 1, 2), BAD);
        due("fan of 2", x.fan(2, 1, 0), BAD);
        for (int n : NO_NUMBERS) {
            due("fan " + n, x.fan(0, n, 0), BAD);
            due("fan of " + n, x.fan(n, 0, 0), BAD);
            due("fan what " + n, x.fan(0, 0, n), BAD);
        }
        due("fan 0", x.fan(0, 0, 0), NONE);
        x = told("thin 22 5 5;sitter 21 9;");
        due("fan y less", x.fan(0, 2, 0), 4);
        x.steps(1);
        x.blow(1, 4);
        due("fan as it is", x.fan(0, 2, 0), NONE);
        x.blow(1, 0);
        due("fan from 1 on", x.fan(0, 2, 0), 14);
        x.steps(5);
        due("fan from 6 on", x.fan(0, 2, 0), 4);
        // to still an air may be best, too
        x = told("thin 22 5 9;sitter 22 2;air 0 3;air 1 3;air 2 3;");
        due("fan to still", x.fan(0, 2, 0), NONE);
        x = told("thin 22 2 2;sitter 22 1;air 0 3;");
        due("fan to still, one", x.fan(0, 2, 0), 0);
        due("fan to still, how much", x.fan(0, 2, 1), 2);
    }

    private static void fraction(String call, long above, long below, long wantAbove, long wantBelow) {
        due(call + ", above", above, wantAbove);
        due(call + ", below", below, wantBelow);
    }

    // Promise 28
    private static void luck() {
        SmokeSeats x = told("thin 0 1 1;sitter 10 1;sitter 0 1;sitter 20 1;air 0 1;air 1 1;air 2 1;air 3 1;");
        x.seat(1, 1, 0);
        fraction("luck 0", x.luck(3, 0, 0, 0), x.luck(3, 0, 0, 1), 0, 1);
        fraction("luck 1", x.luck(3, 0, 1, 0), x.luck(3, 0, 1, 1), 0, 1);
        fraction("luck 2", x.luck(3, 0, 2, 0), x.luck(3, 0, 2, 1), 7, 10);
        fraction("luck 3", x.luck(3, 0, 3, 0), x.luck(3, 0, 3, 1), 91, 100);
        fraction("luck 8", x.luck(3, 0, 8, 0), x.luck(3, 0, 8, 1), 99757, 100000);
        fraction("luck of 0", x.luck(0, 0, 2, 0), x.luck(0, 0, 2, 1), 1, 1);
        fraction("luck of 10", x.luck(10, 0, 8, 0), x.luck(10, 0, 8, 1), 0, 1);
        fraction("luck 0 behind others", x.luck(3, 0, 0, 0), x.luck(3, 0, 0, 1), 0, 1);
        x.seat(1, 1, 1);
        fraction("luck 1 at the table", x.luck(3, 1, 1, 0), x.luck(3, 1, 1, 1), 1, 1);
        x.seat(1, 1, 0);
        fraction("luck of no sleeve", x.luck(3, 1, 8, 0), x.luck(3, 1, 8, 1), 0, 1);
        fraction("luck of 1", x.luck(1, 0, 3, 0), x.luck(1, 0, 3, 1), 99, 100);
        fraction("luck of 9", x.luck(9, 0, 3, 0), x.luck(9, 0, 3, 1), 19, 100);
        fraction("luck of 5", x.luck(5, 0, 3, 0), x.luck(5, 0, 3, 1), 3, 4);
        due("luck: STEP", x.rule(2), 0);
        due("luck of 11", x.luck(11, 0, 1, 0), BAD);
        due("luck 9", x.luck(5, 0, 9, 0), BAD);
        due("luck of sitter 3", x.luck(5, 3, 1, 0), BAD);
        due("luck what 2", x.luck(5, 0, 1, 2), BAD);
        for (int n : NO_NUMBERS) {
            due("luck of v " + n, x.luck(n, 0, 1, 0), BAD);
            due("luck of sitter " + n, x.luck(1, n, 1, 0), BAD);
            due("luck " + n, x.luck(1, 0, n, 0), BAD);
            due("luck what " + n, x.luck(1, 0, 1, n), BAD);
        }
        // from 2 STEPS on sitter 2 is wet where the first two airs blew, sitter 0 stands in the way
        x.seat(0, 1, 0);
        fraction("luck of two airs", x.luck(1, 2, 3, 0), x.luck(1, 2, 3, 1), 81, 100);
        // by STEP 6 modulo 6 it is AIR 0 again
        x = told("thin 0 1 1;sitter 10 1;air 0 1;");
        fraction("luck of AIR 0 alone", x.luck(9, 0, 7, 0), x.luck(9, 0, 7, 1), 1, 10);
        fraction("luck of AIR 0 again", x.luck(9, 0, 8, 0), x.luck(9, 0, 8, 1), 19, 100);
    }

    // Promise 29
    private static void mean() {
        SmokeSeats x = told("thin 0 2 2;sitter 10 1;sitter 20 9;air 0 1;air 1 1;air 2 1;");
        fraction("mean 0", x.mean(3, 0, 0, 0), x.mean(3, 0, 0, 1), 0, 1);
        fraction("mean 1", x.mean(3, 0, 1, 0), x.mean(3, 0, 1, 1), 0, 1);
        fraction("mean 2", x.mean(3, 0, 2, 0), x.mean(3, 0, 2, 1), 7, 10);
        // 1 where the first air blows, 1 more where the second is still then, 1 where the second blows alone
        fraction("mean 3", x.mean(3, 0, 3, 0), x.mean(3, 0, 3, 1), 28, 25);
        fraction("mean of 0", x.mean(0, 0, 3, 0), x.mean(0, 0, 3, 1), 1, 1);
        fraction("mean 0 behind others", x.mean(3, 0, 0, 0), x.mean(3, 0, 0, 1), 0, 1);
        fraction("mean of 10", x.mean(10, 0, 8, 0), x.mean(10, 0, 8, 1), 0, 1);
        due("mean: STEP", x.rule(2), 0);
        x.steps(2);
        fraction("mean, what he has does not count", x.mean(0, 0, 8, 0), x.mean(0, 0, 8, 1), 0, 1);
        due("mean of 11", x.mean(11, 0, 1, 0), BAD);
        due("mean 9", x.mean(5, 0, 9, 0), BAD);
        due("mean of sitter 2", x.mean(5, 2, 1, 0), BAD);
        due("mean what 2", x.mean(5, 0, 1, 2), BAD);
        for (int n : NO_NUMBERS) {
            due("mean of v " + n, x.mean(n, 0, 1, 0), BAD);
            due("mean of sitter " + n, x.mean(1, n, 1, 0), BAD);
            due("mean " + n, x.mean(1, 0, n, 0), BAD);
            due("mean what " + n, x.mean(1, 0, 1, n), BAD);
        }
        x = told("thin 0 9 99;sitter 0 9;");
        fraction("mean of all", x.mean(7, 0, 8, 0), x.mean(7, 0, 8, 1), 72, 1);
    }

    // Promise 30
    private static void see() {
        SmokeSeats x = told(EVENING);
        due("see", x.see(0, 0, 0, 0), 1);
        due("see, most", x.see(1, 1, 30, 999), 2);
        int[][] no = {{2, 0, 0, 0}, {0, 2, 0, 0}, {0, 0, 31, 0}, {0, 0, 0, 1000}};
        for (int[] n : no) {
            due("see " + n[0] + " " + n[1] + " " + n[2] + " " + n[3], x.see(n[0], n[1], n[2], n[3]), BAD);
        }
        for (int n : NO_NUMBERS) {
            due("see of " + n, x.see(n, 0, 0, 0), BAD);
            due("see of life " + n, x.see(0, n, 0, 0), BAD);
            due("see behind " + n, x.see(0, 0, n, 0), BAD);
            due("see much " + n, x.see(0, 0, 0, n), BAD);
        }
        due("see: seen", x.count(0), 2);
        for (int k = 3; k <= 6; k++) {
            due("see the " + k, x.see(0, 0, 0, 0), k);
        }
        due("see the 7th", x.see(0, 0, 0, 0), FULL);
        due("see the 7th, BAD", x.see(0, 0, 31, 0), BAD);
        due("see: seen then", x.count(0), 6);
    }

    // Promise 31
    private static void forget() {
        SmokeSeats x = told(EVENING);
        due("forget none", x.forget(0), 0);
        due("forget 1 of none", x.forget(1), BAD);
        x.see(0, 0, 0, 0);
        x.see(0, 0, 2, 2);
        x.see(0, 0, 0, 9);
        due("forget: kinds ahead", x.kinds(0), 0);
        due("forget 4 of 3", x.forget(4), BAD);
        for (int n : NO_NUMBERS) {
            due("forget " + n, x.forget(n), BAD);
        }
        due("forget 3 of 3", x.forget(3), 3);
        due("forget 2 of 3", x.forget(2), 3);
        due("forget: kinds", x.kinds(0), 13);
        due("forget 0 of 2", x.forget(0), 2);
        due("forget: seen", x.count(0), 0);
        due("forget: kinds of none", x.kinds(0), 15);
    }

    // Promise 32
    private static void kinds() {
        SmokeSeats x = told("heavy 0 9 9;plain 0 1 1;sitter 10 9;air 0 1;");
        due("kinds of nothing seen", x.kinds(0), 15);
        int[] much = {5, 2, 9, 3};
        for (int kind = 0; kind <= 3; kind++) {
            x.see(0, 0, 2, much[kind]);
            due("kinds by " + much[kind], x.kinds(0), 1 << kind);
            x.forget(0);
        }
        x.see(0, 0, 2, 4);
        due("kinds by none", x.kinds(0), 0);
        x.forget(0);
        x.see(0, 0, 1, 0);
        due("kinds by what all do", x.kinds(0), 15);
        x.see(0, 0, 0, 0);
        x.see(0, 0, 2, 5);
        due("kinds by three", x.kinds(0), 1);
        due("kinds: kind", x.life(0, 0), 1);
        // all else as it is: life 0 is heavy, so what was seen of it fits no kind of life 1
        due("kinds of the other", x.kinds(1), 0);
        x.forget(0);
        x.see(0, 0, 2, 2);
        due("kinds of the other, as it is", x.kinds(1), 15);
        x.forget(0);
        x.see(0, 1, 2, 1);
        due("kinds of life 1", x.kinds(1), 13);
        // were life 0 thin, his sleeve would be full of it
        due("kinds of life 0 by what is seen of life 1", x.kinds(0), 11);
        x.forget(0);
        x.see(0, 0, 2, 2);
        // from now on: the same is asked behind each STEP anew
        x.steps(1);
        due("kinds from 1 on", x.kinds(0), 15);
        due("kinds of 2", x.kinds(2), BAD);
        for (int n : NO_NUMBERS) {
            due("kinds of " + n, x.kinds(n), BAD);
        }
    }

    // Promise 33
    private static void froms() {
        SmokeSeats x = told("thin 43 1 1;sitter 22 1;sitter 11 1;air 0 1;");
        due("froms of nothing seen", x.froms(0, 0), 20);
        due("froms of nothing seen, the first", x.froms(0, 1), 0);
        x.see(0, 0, 2, 1);
        due("froms", x.froms(0, 0), 2);
        due("froms, the first", x.froms(0, 1), 12);
        x.see(0, 0, 1, 0);
        due("froms by two", x.froms(0, 0), 1);
        due("froms by two, the first", x.froms(0, 1), 12);
        x.see(1, 0, 30, 1);
        due("froms by none", x.froms(0, 0), 0);
        due("froms by none, the first", x.froms(0, 1), NONE);
        due("froms: at", x.life(0, 1), 43);
        due("froms what 2", x.froms(0, 2), BAD);
        due("froms of 1", x.froms(1, 0), BAD);
        for (int n : NO_NUMBERS) {
            due("froms of " + n, x.froms(n, 0), BAD);
            due("froms what " + n, x.froms(0, n), BAD);
        }
        // what is in the air already stays where it is
        x = told("plain 0 1 9;sitter 0 0;");
        x.steps(3);
        x.seat(0, 1, 9);
        x.see(0, 0, 1, 3);
        due("froms of what is in the air", x.froms(0, 0), 19);
        due("froms of what is in the air, the first", x.froms(0, 1), 1);
    }

    // Promise 34
    private static void ask() {
        SmokeSeats x = told("thin 43 1 1;sitter 43 0;sitter 12 1;sitter 40 1;air 0 1;");
        // sitter 1 is wet from 12 and 2 alone: 18 are left at the worst; sitter 2 from five: 15
        due("ask", x.ask(0, 0), 2);
        due("ask, how many", x.ask(0, 1), 15);
        x.see(1, 0, 30, 1);
        due("ask: froms", x.froms(0, 0), 2);
        due("ask, nobody", x.ask(0, 0), NONE);
        due("ask, nobody, how many", x.ask(0, 1), NONE);
        x.forget(0);
        x.see(2, 0, 30, 1);
        due("ask behind seen: froms", x.froms(0, 0), 5);
        due("ask behind seen", x.ask(0, 0), NONE);
        x.forget(0);
        x.seat(2, 0, 13);
        due("ask, the first of two", x.ask(0, 0), 1);
        due("ask, the first of two, how many", x.ask(0, 1), 18);
        x.see(0, 0, 0, 1);
        due("ask, by no cell", x.ask(0, 0), NONE);
        due("ask: at", x.life(0, 1), 43);
        due("ask what 2", x.ask(0, 2), BAD);
        due("ask of 1", x.ask(1, 0), BAD);
        for (int n : NO_NUMBERS) {
            due("ask of " + n, x.ask(n, 0), BAD);
            due("ask what " + n, x.ask(0, n), BAD);
        }
        x = told("thin 43 1 1;sitter 40 1;sitter 12 1;air 0 1;");
        due("ask sitter 0", x.ask(0, 0), 0);
        due("ask sitter 0, how many", x.ask(0, 1), 15);
        x.see(1, 0, 2, 1);
        x.see(1, 0, 1, 0);
        due("ask, of one cell", x.froms(0, 0), 1);
        due("ask, of one cell, nobody", x.ask(0, 0), NONE);
        due("ask, no sitters", told("plain 0 1 1;").ask(0, 0), NONE);
    }

    // Promise 35
    private static void drift() {
        SmokeSeats x = new SmokeSeats();
        due("drift of nothing", x.drift(1, 1, 0), STATE);
        due("drift of nothing, BAD", x.drift(1, 0, 0), BAD);
        x = told(EVENING);
        due("drift", x.drift(7, 9, 0), 7);
        due("drift, lost", x.drift(7, 9, 1), 8);
        due("drift: STEP", x.rule(2), 0);
        due("drift 0", x.drift(7, 0, 0), BAD);
        due("drift 61", x.drift(7, 61, 0), BAD);
        due("drift what 2", x.drift(7, 1, 2), BAD);
        for (int n : NO_NUMBERS) {
            due("drift " + n, x.drift(7, n, 0), BAD);
            due("drift what " + n, x.drift(7, 1, n), BAD);
        }
        // the first way of each seed, seen by the wall at which a thin life is lost
        int[] seeds = {0, 1, 7, -1, Integer.MAX_VALUE, Integer.MIN_VALUE, 123456789};
        int[] walls = {-1, 42, 1, 13, 10};
        for (int seed : seeds) {
            int way = ((seed * 1103515245 + 12345) >>> 16 & 0x7fff) % 5;
            x = told("thin 12 1 1;");
            x.alter(0, 1, way == 0 ? 12 : walls[way]);
            due("drift of the seed " + seed, x.drift(seed, 1, 1), way == 0 ? 0 : 1);
        }
        // one STEP is told and taken, and not one more
        x = told("plain 0 2 90;sitter 0 2;sitter 43 2;");
        due("drift 1", x.drift(5, 1, 0), 2);
        due("drift 7", x.drift(5, 7, 0), 14);
        due("drift 45", x.drift(5, 45, 0), 90);
        // what is lost and had ahead does not count
        x = told("plain 0 9 9;sitter 0 4;");
        x.steps(1);
        x.open();
        due("drift, taken", x.drift(3, 60, 0), 0);
        due("drift, lost in them", x.drift(3, 60, 1), 0);
    }

    // Promise 36
    private static void keep() {
        SmokeSeats x = told(EVENING);
        due("keep 0", x.keep(0), 0);
        due("keep 0 again", x.keep(0), 1);
        due("keep: images", x.count(1), 1);
        due("keep 1", x.keep(1), 0);
        due("keep: images then", x.count(1), 2);
        due("keep 2", x.keep(2), BAD);
        for (int n : NO_NUMBERS) {
            due("keep " + n, x.keep(n), BAD);
        }
        x.steps(2);
        x.keep(0);
        x.steps(3);
        due("keep: back 1", x.back(1), 0);
        due("keep: back 0", x.back(0), 2);
        due("keep: has", x.has(0, 0), 2);
    }

    // Promise 37
    private static void back() {
        SmokeSeats x = told(EVENING);
        due("back of none", x.back(0), STATE);
        due("back 2", x.back(2), BAD);
        for (int n : NO_NUMBERS) {
            due("back " + n, x.back(n), BAD);
        }
        x.steps(2);
        x.see(0, 0, 0, 2);
        x.see(0, 0, 1, 3);
        x.keep(1);
        x.forget(0);
        x.see(1, 1, 1, 1);
        x.alter(0, 0, 3);
        x.alter(0, 1, 43);
        x.alter(0, 2, 9);
        x.alter(0, 3, 99);
        x.seat(0, 0, 3);
        x.seat(0, 1, 9);
        x.blow(0, 4);
        x.price(1, 9);
        x.steps(4);
        x.open();
        x.feed('a');
        x.sheet(0, 0, 5);
        due("back", x.back(1), 2);
        due("back: STEP", x.rule(2), 2);
        due("back: kind", x.life(0, 0), 0);
        due("back: at", x.life(0, 1), 11);
        due("back: pace", x.life(0, 2), 4);
        due("back: left", x.life(0, 3), 2);
        due("back: in cells", x.rule(3), 12);
        due("back: in 12", x.in(12, 0), 3);
        due("back: lost", x.rule(4), 0);
        due("back: has", x.has(0, 0), 2);
        due("back: in", x.sitter(0, 0), 21);
        due("back: sleeve", x.sitter(0, 1), 2);
        due("back: air", x.air(0), 1);
        due("back: price", x.sitter(0, 3), 5);
        due("back: seen", x.count(0), 2);
        due("back: kinds", x.kinds(0), 0);
        due("back: the tape", x.count(2), 1);
        due("back: sheet 0", x.count(3), 5);
        due("back: images", x.count(1), 1);
        x.forget(1);
        due("back: kinds by the first seen", x.kinds(0), 15);
        x.back(1);
        x.forget(0);
        x.see(0, 1, 0, 2);
        x.see(1, 0, 1, 3);
        x.back(1);
        due("back: froms", x.froms(0, 0), 0);
        x.steps(1);
        due("back again", x.back(1), 2);
        due("back to the other", x.back(0), STATE);
    }

    /** Each number of what was seen comes back with its image. */
    private static void backToSeen() {
        SmokeSeats x = told("heavy 0 9 9;plain 0 1 1;sitter 10 9;sitter 43 9;air 0 1;");
        x.see(0, 0, 2, 5);
        x.keep(0);
        int[][] others = {{1, 0, 2, 5}, {0, 1, 2, 5}, {0, 0, 1, 5}, {0, 0, 2, 2}};
        for (int[] o : others) {
            x.forget(0);
            x.see(o[0], o[1], o[2], o[3]);
            due("seen ahead of back", x.kinds(0), o[3] == 2 ? 2 : 0);
            x.back(0);
            due("seen behind back", x.kinds(0), 1);
        }
    }

    // Promise 38
    private static void sheet() {
        SmokeSeats x = new SmokeSeats();
        due("sheet", x.sheet(0, 0, 0), 1);
        due("sheet: cells", x.count(3), 0);
        due("sheet 40", x.sheet(0, 2, 40), 1);
        due("sheet 40: cells", x.count(3), 40);
        due("sheet 41", x.sheet(0, 2, 41), BAD);
        due("sheet -1", x.sheet(0, 2, -1), -14);
        due("sheet of least", x.sheet(0, 2, Integer.MIN_VALUE), -14);
        due("sheet of most", x.sheet(0, 2, Integer.MAX_VALUE), BAD);
        due("sheet, refused: cells", x.count(3), 40);
        due("sheet of 4", x.sheet(4, 0, 1), BAD);
        due("sheet of lane 3", x.sheet(0, 3, 1), BAD);
        due("sheet of 4, -1", x.sheet(4, 0, -1), BAD);
        due("sheet of lane 3, -1", x.sheet(0, 3, -1), BAD);
        for (int n : NO_NUMBERS) {
            due("sheet of " + n, x.sheet(n, 0, 1), BAD);
            due("sheet of lane " + n, x.sheet(0, n, 1), BAD);
        }
        // a new row is of CELLS 0
        Checks.tell(x, "sitter 0 1;sitter 1 1;");
        x.sheet(3, 0, 2);
        x.lay(3, 0, 1);
        x.lay(3, 1, 43);
        x.sheet(3, 0, 2);
        due("sheet anew: read", x.read(3, 0, 0, 1), 1);
        due("sheet anew: in of 0", x.sitter(0, 0), 0);
        due("sheet anew: in of 1", x.sitter(1, 0), 1);
    }

    // Promise 39
    private static void lay() {
        SmokeSeats x = told("sitter 0 1;sitter 0 1;");
        due("lay on nothing", x.lay(0, 0, 1), -11);
        due("lay on nothing, no index", x.lay(0, -1, 1), -11);
        x.sheet(0, 0, 2);
        due("lay", x.lay(0, 0, 257), 1);
        due("lay the last", x.lay(0, 1, 256 + 43), 1);
        due("lay behind the last", x.lay(0, 2, 1), -12);
        due("lay on 4", x.lay(4, 0, 1), BAD);
        for (int n : NO_NUMBERS) {
            due("lay on " + n, x.lay(n, 0, 1), BAD);
            due("lay at " + n, x.lay(0, n, 1), -12);
        }
        due("lay: read", x.read(0, 0, 0, 1), 1);
        due("lay: in", x.sitter(1, 0), 43);
        x.sheet(1, 1, 2);
        x.lay(1, 0, 1);
        x.lay(1, 1, 65536 + 12);
        due("lay on shorts: read", x.read(1, 1, 0, 1), 1);
        due("lay on shorts: in", x.sitter(1, 0), 12);
        x.lay(1, 1, 256 + 12);
        due("lay on shorts, more", x.read(1, 1, 0, 1), -20);
        x.sheet(2, 2, 2);
        x.lay(2, 1, 65536 + 12);
        due("lay on ints, more", x.read(2, 2, 0, 1), -20);
        x.lay(2, 1, 23);
        due("lay on ints", x.read(2, 2, 0, 1), 1);
        due("lay on ints: in", x.sitter(0, 0), 23);
        x.lay(0, 0, -256);
        x.lay(0, 1, 1024 + 3);
        due("lay a byte below 0", x.read(0, 0, 0, 1), 1);
        due("lay a byte below 0: in", x.sitter(0, 0), 3);
        x.sheet(0, 0, 0);
        due("lay on a row of none", x.lay(0, 0, 0), -12);
    }

    private static SmokeSeats laid(int lane, int size, int... cells) {
        SmokeSeats x = told("plain 11 4 20;sitter 0 2;sitter 0 2;");
        x.sheet(2, lane, size);
        for (int k = 0; k < cells.length; k++) {
            x.lay(2, k, cells[k]);
        }
        return x;
    }

    // Promise 40
    private static void read() {
        for (int lane = 0; lane <= 2; lane++) {
            SmokeSeats x = laid(lane, 7, 9, 0, 11, 1, 11, 0, 23);
            due("read 3", x.read(2, lane, 1, 3), 3);
            due("read 3: torn", x.torn(), 0);
            due("read 3: STEP", x.rule(2), 3);
            due("read 3: in of 0", x.sitter(0, 0), 23);
            due("read 3: in of 1", x.sitter(1, 0), 11);
            due("read 3: has of 0", x.has(0, 0), 4);
            due("read 3: has of 1", x.has(1, 0), 4);
            due("read 0", x.read(2, lane, 1, 0), 0);
            due("read 0: STEP", x.rule(2), 3);
            due("read, half a pair", x.read(2, lane, 4, 2), -20);
            due("read behind", x.read(2, lane, 5, 2), 1);
            due("read behind: torn", x.torn(), 2);
            due("read behind: STEP", x.rule(2), 4);
            due("read the last alone", x.read(2, lane, 6, 1), 0);
            due("read the last alone: torn", x.torn(), 2);
            due("read as of another lane", x.read(2, (lane + 1) % 3, 1, 3), 0);
            due("read as of another lane: torn", x.torn(), 3);
            due("read as of another lane, no index", x.read(2, (lane + 2) % 3, -1, 1), 0);
            due("read as of another lane, no index: torn", x.torn(), 3);
            due("read of nothing", x.read(1, lane, 99, 1), 0);
            due("read of nothing: torn", x.torn(), 1);
            for (int n : NO_NUMBERS) {
                due("read from " + n, x.read(2, lane, n, 2), 0);
                due("read from " + n + ": torn", x.torn(), 2);
            }
            due("read: STEP at last", x.rule(2), 4);
        }
        SmokeSeats x = laid(0, 40);
        due("read 20", x.read(2, 0, 0, 20), 20);
        due("read 20 from 2 on", x.read(2, 0, 2, 20), 19);
        due("read 21", x.read(2, 0, 0, 21), BAD);
        due("read of 4", x.read(4, 0, 0, 1), BAD);
        due("read of lane 3", x.read(2, 3, 0, 1), BAD);
        for (int n : NO_NUMBERS) {
            due("read " + n, x.read(2, 0, 0, n), BAD);
            due("read of sheet " + n, x.read(n, 0, 0, 1), BAD);
            due("read of lane " + n, x.read(2, n, 0, 1), BAD);
        }
    }

    private static void readRefused() {
        SmokeSeats x = laid(0, 6, 0, 11, 2, 11, 0, 23);
        due("read, no such sitter", x.read(2, 0, 0, 3), -21);
        due("read, refused: STEP", x.rule(2), 0);
        due("read, refused: in", x.sitter(0, 0), 0);
        due("read, the first refused", x.read(2, 0, 2, 1), -20);
        due("read ahead of the refused", x.read(2, 0, 0, 1), 1);
        x = laid(0, 6, 0, 11, 1, 14, 0, 23);
        due("read, no such cell", x.read(2, 0, 0, 3), -21);
        x = laid(1, 6, 0, 11, 1, -1, 0, 23);
        due("read, a cell below 0", x.read(2, 1, 0, 3), -21);
        x = laid(0, 6, 0, 11, -1, 0, 0, 23);
        due("read, a sitter below 0", x.read(2, 0, 0, 3), -21);
        x = laid(0, 5, 0, 11, 1, 11, 9);
        due("read, not whole is not refused", x.read(2, 0, 0, 3), 2);
        x = laid(0, 5, 0, 11, 9, 11, 9);
        due("read, refused ahead of the end", x.read(2, 0, 0, 3), -21);
        x = laid(0, 6, 0, 11, 1, 11, 0, 23);
        for (int k = 0; k < 33; k++) {
            x.steps(30);
        }
        x.steps(7);
        due("read at 997", x.read(2, 0, 0, 3), -22);
        due("read at 997: STEP", x.rule(2), 997);
        due("read at 997: in", x.sitter(0, 0), 0);
        due("read 2 at 997", x.read(2, 0, 0, 2), 2);
        due("read at 999", x.read(2, 0, 0, 1), -20);
        due("read 0 at 999", x.read(2, 0, 0, 0), 0);
        due("read at 999, not whole", x.read(2, 0, 5, 1), 0);
    }

    // Promise 41
    private static void torn() {
        SmokeSeats x = laid(0, 4, 0, 11, 9, 9);
        due("torn at first", x.torn(), 0);
        x.read(2, 0, 3, 1);
        due("torn", x.torn(), 2);
        x.read(2, 0, 0, 2);
        due("torn behind a refused read", x.torn(), 2);
        x.read(2, 0, 0, 21);
        due("torn behind a BAD read", x.torn(), 2);
        x.lay(2, 9, 9);
        due("torn behind lay", x.torn(), 2);
        x.text();
        due("torn behind text", x.torn(), 2);
        Checks.tell(x, "sitter 0 0;");
        x.read(2, 0, 0, 1);
        due("torn behind a whole read", x.torn(), 0);
        x.read(2, 1, 0, 1);
        due("torn by a cast", x.torn(), 3);
        x.read(3, 1, 0, 1);
        due("torn by nothing", x.torn(), 1);
        x.read(2, 0, 0, 0);
        due("torn behind none", x.torn(), 0);
    }

    // Promise 42
    private static void count() {
        SmokeSeats x = told(EVENING);
        x.see(0, 0, 0, 0);
        x.see(0, 0, 0, 0);
        x.keep(1);
        x.feed(1);
        x.feed(1);
        x.feed(1);
        x.sheet(1, 0, 9);
        due("count 3 of nothing", x.count(3), NONE);
        x.sheet(0, 1, 7);
        x.steps(1);
        int[] want = {2, 1, 3, 7, 9, 8};
        for (int what = 0; what < want.length; what++) {
            due("count " + what, x.count(what), want[what]);
        }
        due("count 6", x.count(6), BAD);
        for (int n : NO_NUMBERS) {
            due("count " + n, x.count(n), BAD);
        }
        x.seat(0, 0, 32);
        due("count 5, both in row 2", x.count(5), 6);
    }
}
