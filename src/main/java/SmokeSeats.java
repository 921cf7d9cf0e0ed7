import java.util.Arrays;

/** Seats in the smoke of other people's lives; ../shared/DOC.md says what each call answers. */
public final class SmokeSeats {
    public static final int BAD = -1, STATE = -2, FULL = -3, NONE = -4;

    private static final int COLUMNS = 5, ROWS = 4, CELLS = 20;
    private static final int MOST_LIVES = 3, MOST_SITTERS = 4, AIRS = 6;
    private static final int PLAIN = 0, HEAVY = 1, THIN = 2, HAPPY = 3;
    private static final int STILL = 0, X_MORE = 1, X_LESS = 2, Y_MORE = 3, Y_LESS = 4;
    private static final int MOST_SLEEVE = 9, MOST_PACE = 9, MOST_LEFT = 99, MOST_PRICE = 9;
    private static final int LAST_STEP = 999, MOST_STEPS = 30, FARTHEST = 60, MOST_WANTED = 999;
    private static final int MOST_SEEN = 6, IMAGES = 2, TAPE_BYTES = 160, MOST_CHANCES = 8;
    private static final int SHEETS = 4, LANES = 3, SHEET_CELLS = 40, MOST_READ = 20;
    private static final int NULL_FAULT = 1, INDEX_FAULT = 2, CAST_FAULT = 3, SIZE_FAULT = 4;

    private final Room now = new Room();
    /** Every "as it would be" runs here, so that no call makes rows of its own. */
    private final Room trial = new Room();
    private final Seen seen = new Seen();
    private final Image[] images = new Image[IMAGES];
    private final Tape tape = new Tape();
    private final Sheet[] sheets = new Sheet[SHEETS];
    private final Odds odds = new Odds();
    /** What each SITTER would answer for each CELL, while ask() weighs them. */
    private final int[] answers = new int[MOST_SITTERS * CELLS];
    private int torn = 0;

    public SmokeSeats() {
        for (int k = 0; k < IMAGES; k++) {
            images[k] = new Image();
        }
        for (int k = 0; k < SHEETS; k++) {
            sheets[k] = new Sheet();
        }
    }

    // ---- the text

    public int feed(int c) {
        if (!isWithin(c, 0, 127)) {
            return BAD;
        }
        return tape.put(c) ? tape.length : FULL;
    }

    public int end(int n) {
        if (!isWithin(n, 0, tape.length)) {
            return BAD;
        }
        int had = tape.length;
        tape.length = n;
        return had;
    }

    public int text() {
        int lines = tape.tell(trial);
        tape.length = 0;
        if (tape.fault != 0) {
            return -10 - tape.start;
        }
        now.copyOf(trial);
        seen.count = 0;
        for (int k = 0; k < IMAGES; k++) {
            images[k].kept = false;
        }
        return lines;
    }

    public int fault() {
        return tape.fault;
    }

    public int rule(int what) {
        switch (what) {
            case 0: return now.lives;
            case 1: return now.sitters;
            case 2: return now.step;
            case 3: return now.sumOfLives(now.aloft);
            case 4: return now.sumOfLives(now.lost);
            case 5: return now.heldByAll();
            default: return BAD;
        }
    }

    public int life(int l, int what) {
        if (!now.isLife(l)) {
            return BAD;
        }
        switch (what) {
            case 0: return now.kinds[l];
            case 1: return nameOf(now.tables[l]);
            case 2: return now.paces[l];
            case 3: return now.lefts[l];
            case 4: return now.aloft[l];
            case 5: return now.lost[l];
            case 6: return now.heldOf(l);
            default: return BAD;
        }
    }

    public int sitter(int i, int what) {
        if (!now.isSitter(i)) {
            return BAD;
        }
        switch (what) {
            case 0: return nameOf(now.places[i]);
            case 1: return now.sleeves[i];
            case 2: return now.heldBy(i);
            case 3: return now.prices[rowOf(now.places[i])];
            default: return BAD;
        }
    }

    public int has(int i, int l) {
        return now.isSitter(i) && now.isLife(l) ? now.held(i, l) : BAD;
    }

    public int in(int cell, int l) {
        int c = cellOf(cell);
        return c >= 0 && now.isLife(l) ? now.cells[l * CELLS + c] : BAD;
    }

    public int air(int k) {
        return isWithin(k, 0, AIRS - 1) ? now.ways[k] : BAD;
    }

    // ---- what is changed

    public int alter(int l, int what, int v) {
        if (!now.isLife(l)) {
            return BAD;
        }
        switch (what) {
            case 0: return isWithin(v, PLAIN, HAPPY) ? replace(now.kinds, l, v) : BAD;
            case 1: return isCell(v) ? nameOf(replace(now.tables, l, cellOf(v))) : BAD;
            case 2: return isWithin(v, 1, MOST_PACE) ? replace(now.paces, l, v) : BAD;
            case 3: return isWithin(v, 0, MOST_LEFT) ? replace(now.lefts, l, v) : BAD;
            default: return BAD;
        }
    }

    public int seat(int i, int what, int v) {
        if (!now.isSitter(i)) {
            return BAD;
        }
        switch (what) {
            case 0: return isCell(v) ? nameOf(replace(now.places, i, cellOf(v))) : BAD;
            case 1: return isWithin(v, 0, MOST_SLEEVE) ? replace(now.sleeves, i, v) : BAD;
            default: return BAD;
        }
    }

    public int blow(int k, int v) {
        if (!isWithin(k, 0, AIRS - 1) || !isWithin(v, STILL, Y_LESS)) {
            return BAD;
        }
        return replace(now.ways, k, v);
    }

    public int price(int y, int v) {
        if (!isWithin(y, 0, ROWS - 1) || !isWithin(v, 0, MOST_PRICE)) {
            return BAD;
        }
        return replace(now.prices, y, v);
    }

    public int open() {
        int much = now.sumOfLives(now.aloft);
        now.loseAll();
        return much;
    }

    // ---- steps

    public int steps(int n) {
        if (!isWithin(n, 0, MOST_STEPS)) {
            return BAD;
        }
        return now.step + n > LAST_STEP ? FULL : now.goOn(n);
    }

    public int runs(int n, int what) {
        if (!isWithin(n, 0, FARTHEST) || !isWithin(what, 0, 3)) {
            return BAD;
        }
        trial.copyOf(now);
        if (what == 3) {
            return firstTaking(n);
        }
        trial.goOn(n);
        if (what == 0) {
            return trial.heldByAll();
        }
        return trial.sumOfLives(what == 1 ? trial.lost : trial.aloft);
    }

    /** No SITTER ever gives back, so the first STEP in which one takes is the answer. */
    private int firstTaking(int n) {
        for (int k = 1; k <= n; k++) {
            if (trial.goOn(1) > 0) {
                return k;
            }
        }
        return NONE;
    }

    public int ahead(int i, int l, int n) {
        if (!now.isSitter(i) || !now.isLife(l) || !isWithin(n, 0, FARTHEST)) {
            return BAD;
        }
        trial.copyOf(now);
        trial.goOn(n);
        return trial.held(i, l);
    }

    public int wet(int i, int l) {
        if (!now.isSitter(i) || !now.isLife(l)) {
            return BAD;
        }
        trial.copyOf(now);
        for (int k = 1; k <= FARTHEST; k++) {
            trial.goOn(1);
            if (trial.held(i, l) > now.held(i, l)) {
                return k;
            }
        }
        return NONE;
    }

    public int over() {
        trial.copyOf(now);
        for (int k = 0; k <= FARTHEST; k++) {
            if (trial.isOver()) {
                return k;
            }
            trial.goOn(1);
        }
        return NONE;
    }

    // ---- what is best

    public int best(int i, int l, int n) {
        if (!now.isSitter(i) || !now.isLife(l) || !isWithin(n, 0, FARTHEST)) {
            return BAD;
        }
        int most = -1;
        int at = 0;
        for (int c = 0; c < CELLS; c++) {
            sitThere(i, c, n);
            if (trial.held(i, l) > most) {
                most = trial.held(i, l);
                at = c;
            }
        }
        return nameOf(at);
    }

    public int cheap(int i, int l, int v) {
        if (!now.isSitter(i) || !now.isLife(l) || !isWithin(v, 1, MOST_WANTED)) {
            return BAD;
        }
        int least = MOST_PRICE + 1;
        int at = -1;
        for (int c = 0; c < CELLS; c++) {
            int asked = now.prices[rowOf(c)];
            if (asked < least && isEnoughThere(i, l, c, v)) {
                least = asked;
                at = c;
            }
        }
        return at < 0 ? NONE : nameOf(at);
    }

    private boolean isEnoughThere(int i, int l, int cell, int v) {
        sitThere(i, cell, MOST_STEPS);
        return trial.held(i, l) >= v;
    }

    public int clean(int i, int n, int what) {
        if (!now.isSitter(i) || !isWithin(n, 0, FARTHEST) || !isWithin(what, 0, 1)) {
            return BAD;
        }
        int least = FARTHEST * MOST_SLEEVE + 1;
        int at = 0;
        for (int c = 0; c < CELLS; c++) {
            sitThere(i, c, n);
            int took = trial.heldBy(i) - now.heldBy(i);
            if (took < least) {
                least = took;
                at = c;
            }
        }
        return what == 0 ? nameOf(at) : least;
    }

    private void sitThere(int i, int cell, int n) {
        trial.copyOf(now);
        trial.places[i] = cell;
        trial.goOn(n);
    }

    public int need(int i, int l, int v) {
        if (!now.isSitter(i) || !now.isLife(l) || !isWithin(v, 1, MOST_WANTED)) {
            return BAD;
        }
        for (int sleeve = 0; sleeve <= MOST_SLEEVE; sleeve++) {
            trial.copyOf(now);
            trial.sleeves[i] = sleeve;
            trial.goOn(MOST_STEPS);
            if (trial.held(i, l) >= v) {
                return sleeve;
            }
        }
        return NONE;
    }

    public int swap(int n, int what) {
        if (!isWithin(n, 0, FARTHEST) || !isWithin(what, 0, 1)) {
            return BAD;
        }
        trial.copyOf(now);
        trial.goOn(n);
        int most = trial.heldByAll();
        int pair = NONE;
        for (int a = 0; a < now.sitters; a++) {
            for (int b = a + 1; b < now.sitters; b++) {
                int all = heldIfSwapped(a, b, n);
                if (all > most) {
                    most = all;
                    pair = 10 * a + b;
                }
            }
        }
        return pair == NONE || what == 0 ? pair : most;
    }

    private int heldIfSwapped(int a, int b, int n) {
        trial.copyOf(now);
        trial.places[a] = now.places[b];
        trial.places[b] = now.places[a];
        trial.goOn(n);
        return trial.heldByAll();
    }

    public int fan(int i, int n, int what) {
        if (!now.isSitter(i) || !isWithin(n, 0, FARTHEST) || !isWithin(what, 0, 1)) {
            return BAD;
        }
        trial.copyOf(now);
        trial.goOn(n);
        int most = trial.heldBy(i);
        int change = NONE;
        for (int k = 0; k < AIRS; k++) {
            for (int way = STILL; way <= Y_LESS; way++) {
                int his = way == now.ways[k] ? -1 : heldIfBlown(i, k, way, n);
                if (his > most) {
                    most = his;
                    change = 10 * k + way;
                }
            }
        }
        return change == NONE || what == 0 ? change : most;
    }

    private int heldIfBlown(int i, int k, int way, int n) {
        trial.copyOf(now);
        trial.ways[k] = way;
        trial.goOn(n);
        return trial.heldBy(i);
    }

    // ---- airs that fall still

    public long luck(int v, int i, int n, int what) {
        if (!areOdds(v, i, n, what)) {
            return BAD;
        }
        odds.weigh(now, v, i, n, false);
        return what == 0 ? odds.above : odds.below;
    }

    public long mean(int v, int i, int n, int what) {
        if (!areOdds(v, i, n, what)) {
            return BAD;
        }
        odds.weigh(now, v, i, n, true);
        return what == 0 ? odds.above : odds.below;
    }

    private boolean areOdds(int v, int i, int n, int what) {
        return isWithin(v, 0, 10) && now.isSitter(i) && isWithin(n, 0, MOST_CHANCES) && isWithin(what, 0, 1);
    }

    // ---- whose it was

    public int see(int i, int l, int n, int v) {
        if (!now.isSitter(i) || !now.isLife(l) || !isWithin(n, 0, MOST_STEPS) || !isWithin(v, 0, MOST_WANTED)) {
            return BAD;
        }
        return seen.put(i, l, n, v) ? seen.count : FULL;
    }

    public int forget(int n) {
        if (!isWithin(n, 0, seen.count)) {
            return BAD;
        }
        int had = seen.count;
        seen.count = n;
        return had;
    }

    public int kinds(int l) {
        if (!now.isLife(l)) {
            return BAD;
        }
        int bits = 0;
        for (int kind = PLAIN; kind <= HAPPY; kind++) {
            trial.copyOf(now);
            trial.kinds[l] = kind;
            if (seen.fits(trial, seen.farthest())) {
                bits |= 1 << kind;
            }
        }
        return bits;
    }

    public int froms(int l, int what) {
        if (!now.isLife(l) || !isWithin(what, 0, 1)) {
            return BAD;
        }
        int first = NONE;
        int many = 0;
        for (int c = 0; c < CELLS; c++) {
            if (isFrom(l, c, seen.farthest())) {
                first = many == 0 ? nameOf(c) : first;
                many++;
            }
        }
        return what == 0 ? many : first;
    }

    /** Leaves in the trial what there would be behind n STEPS, if it is true. */
    private boolean isFrom(int l, int cell, int n) {
        trial.copyOf(now);
        trial.tables[l] = cell;
        return seen.fits(trial, n);
    }

    public int ask(int l, int what) {
        if (!now.isLife(l) || !isWithin(what, 0, 1)) {
            return BAD;
        }
        int many = gatherAnswers(l);
        int fewest = many;
        int whom = NONE;
        for (int i = 0; i < now.sitters; i++) {
            int worst = mostAlike(i, many);
            if (worst < fewest) {
                fewest = worst;
                whom = i;
            }
        }
        return whom == NONE || what == 0 ? whom : fewest;
    }

    /** How many CELLS it may be told AT: each SITTER's answers stand side by side in his row. */
    private int gatherAnswers(int l) {
        int many = 0;
        for (int c = 0; c < CELLS; c++) {
            if (isFrom(l, c, MOST_STEPS)) {
                for (int i = 0; i < now.sitters; i++) {
                    answers[i * CELLS + many] = trial.held(i, l);
                }
                many++;
            }
        }
        return many;
    }

    /** The most CELLS that one answer of the SITTER leaves, of the first many answers. */
    private int mostAlike(int i, int many) {
        int most = 0;
        for (int a = 0; a < many; a++) {
            int alike = 0;
            for (int b = 0; b < many; b++) {
                if (answers[i * CELLS + a] == answers[i * CELLS + b]) {
                    alike++;
                }
            }
            most = Math.max(most, alike);
        }
        return most;
    }

    // ---- by a seed

    public int drift(int seed, int n, int what) {
        if (!isWithin(n, 1, FARTHEST) || !isWithin(what, 0, 1)) {
            return BAD;
        }
        if (now.lives == 0) {
            return STATE;
        }
        trial.copyOf(now);
        int took = 0;
        int turned = seed;
        for (int k = 0; k < n; k++) {
            turned = turned * 1103515245 + 12345;
            took += trial.pass(((turned >>> 16) & 0x7fff) % 5);
        }
        return what == 0 ? took : trial.sumOfLives(trial.lost) - now.sumOfLives(now.lost);
    }

    // ---- images, sheets

    public int keep(int k) {
        if (!isWithin(k, 0, IMAGES - 1)) {
            return BAD;
        }
        Image image = images[k];
        int before = image.kept ? 1 : 0;
        image.kept = true;
        image.room.copyOf(now);
        image.seen.copyOf(seen);
        return before;
    }

    public int back(int k) {
        if (!isWithin(k, 0, IMAGES - 1)) {
            return BAD;
        }
        Image image = images[k];
        if (!image.kept) {
            return STATE;
        }
        now.copyOf(image.room);
        seen.copyOf(image.seen);
        return now.step;
    }

    public int sheet(int k, int lane, int n) {
        if (!isSheet(k) || !isLane(lane) || n > SHEET_CELLS) {
            return BAD;
        }
        if (n < 0) {
            return -10 - SIZE_FAULT;
        }
        sheets[k].renew(lane, n);
        return 1;
    }

    public int lay(int k, int i, int v) {
        if (!isSheet(k)) {
            return BAD;
        }
        Sheet sheet = sheets[k];
        int found = sheet.faultAt(sheet.lane, i);
        if (found != 0) {
            return -10 - found;
        }
        sheet.put(i, v);
        return 1;
    }

    public int read(int k, int lane, int f, int n) {
        if (!isSheet(k) || !isLane(lane) || !isWithin(n, 0, MOST_READ)) {
            return BAD;
        }
        Sheet sheet = sheets[k];
        int whole = 0;
        int found = 0;
        // nobody moves before all are looked at: one that is refused lets none come
        for (int j = 0; j < n && found == 0; j++) {
            found = sheet.faultOfPair(lane, f + 2 * j);
            if (found == 0) {
                if (isRefused(sheet, f + 2 * j, now.step + j)) {
                    return -20 - j;
                }
                whole++;
            }
        }
        for (int j = 0; j < whole; j++) {
            now.places[sheet.row[f + 2 * j]] = cellOf(sheet.row[f + 2 * j + 1]);
            now.goOn(1);
        }
        torn = found;
        return whole;
    }

    /** Only for a pair that is whole. */
    private boolean isRefused(Sheet sheet, int i, int step) {
        return !now.isSitter(sheet.row[i]) || !isCell(sheet.row[i + 1]) || step >= LAST_STEP;
    }

    public int torn() {
        return torn;
    }

    public int count(int what) {
        switch (what) {
            case 0: return seen.count;
            case 1: return (images[0].kept ? 1 : 0) + (images[1].kept ? 1 : 0);
            case 2: return tape.length;
            case 3: return sheets[0].isNothing() ? NONE : sheets[0].size;
            case 4: return now.sumOfLives(now.lefts);
            case 5: return now.pricesOfSitters();
            default: return BAD;
        }
    }

    // ---- numbers and cells

    private static boolean isWithin(int v, int least, int most) {
        return v >= least && v <= most;
    }

    private static boolean isSheet(int k) {
        return isWithin(k, 0, SHEETS - 1);
    }

    private static boolean isLane(int lane) {
        return isWithin(lane, 0, LANES - 1);
    }

    private static int replace(int[] row, int k, int v) {
        int was = row[k];
        row[k] = v;
        return was;
    }

    private static boolean isCell(int name) {
        return cellOf(name) >= 0;
    }

    /** Which CELL of 0 to 19, in the order of their names, bears the name; -1: none. */
    private static int cellOf(int name) {
        if (name < 0 || name / 10 >= COLUMNS || name % 10 >= ROWS) {
            return -1;
        }
        return name / 10 * ROWS + name % 10;
    }

    private static int nameOf(int cell) {
        return cell / ROWS * 10 + cell % ROWS;
    }

    private static int rowOf(int cell) {
        return cell % ROWS;
    }

    /** All that a STEP goes by and changes; CELLS are 0 to 19 here. */
    private static final class Room {
        int lives = 0;
        int sitters = 0;
        int step = 0;
        final int[] kinds = new int[MOST_LIVES];
        final int[] tables = new int[MOST_LIVES];
        final int[] paces = new int[MOST_LIVES];
        final int[] lefts = new int[MOST_LIVES];
        final int[] lost = new int[MOST_LIVES];
        /** The sum of a LIFE's CELLS, kept beside them: most STEPS ask for it. */
        final int[] aloft = new int[MOST_LIVES];
        final int[] cells = new int[MOST_LIVES * CELLS];
        final int[] places = new int[MOST_SITTERS];
        final int[] sleeves = new int[MOST_SITTERS];
        final int[] holds = new int[MOST_SITTERS * MOST_LIVES];
        final int[] ways = new int[AIRS];
        final int[] prices = new int[ROWS];

        void clear() {
            lives = 0;
            sitters = 0;
            step = 0;
            Arrays.fill(lost, 0);
            Arrays.fill(aloft, 0);
            Arrays.fill(cells, 0);
            Arrays.fill(holds, 0);
            Arrays.fill(ways, STILL);
            Arrays.fill(prices, 0);
        }

        void copyOf(Room other) {
            lives = other.lives;
            sitters = other.sitters;
            step = other.step;
            System.arraycopy(other.kinds, 0, kinds, 0, MOST_LIVES);
            System.arraycopy(other.tables, 0, tables, 0, MOST_LIVES);
            System.arraycopy(other.paces, 0, paces, 0, MOST_LIVES);
            System.arraycopy(other.lefts, 0, lefts, 0, MOST_LIVES);
            System.arraycopy(other.lost, 0, lost, 0, MOST_LIVES);
            System.arraycopy(other.aloft, 0, aloft, 0, MOST_LIVES);
            System.arraycopy(other.cells, 0, cells, 0, MOST_LIVES * CELLS);
            System.arraycopy(other.places, 0, places, 0, MOST_SITTERS);
            System.arraycopy(other.sleeves, 0, sleeves, 0, MOST_SITTERS);
            System.arraycopy(other.holds, 0, holds, 0, MOST_SITTERS * MOST_LIVES);
            System.arraycopy(other.ways, 0, ways, 0, AIRS);
            System.arraycopy(other.prices, 0, prices, 0, ROWS);
        }

        boolean isLife(int l) {
            return l >= 0 && l < lives;
        }

        boolean isSitter(int i) {
            return i >= 0 && i < sitters;
        }

        int held(int i, int l) {
            return holds[i * MOST_LIVES + l];
        }

        int heldBy(int i) {
            int sum = 0;
            for (int l = 0; l < lives; l++) {
                sum += held(i, l);
            }
            return sum;
        }

        int heldOf(int l) {
            int sum = 0;
            for (int i = 0; i < sitters; i++) {
                sum += held(i, l);
            }
            return sum;
        }

        int heldByAll() {
            int sum = 0;
            for (int i = 0; i < sitters; i++) {
                sum += heldBy(i);
            }
            return sum;
        }

        /** Rows keep what an earlier text told behind the last LIFE, so only LIVES count. */
        int sumOfLives(int[] row) {
            int sum = 0;
            for (int l = 0; l < lives; l++) {
                sum += row[l];
            }
            return sum;
        }

        int pricesOfSitters() {
            int sum = 0;
            for (int i = 0; i < sitters; i++) {
                sum += prices[rowOf(places[i])];
            }
            return sum;
        }

        boolean isOver() {
            return sumOfLives(aloft) == 0 && sumOfLives(lefts) == 0;
        }

        void loseAll() {
            for (int l = 0; l < lives; l++) {
                lost[l] += aloft[l];
                aloft[l] = 0;
            }
            Arrays.fill(cells, 0);
        }

        /** n STEPS by the AIRS: what SITTERS take in them. */
        int goOn(int n) {
            int took = 0;
            int gone = 0;
            while (gone < n && !isOver()) {
                took += pass(wayNow());
                gone++;
            }
            // in an empty room nothing but the STEP goes on
            step += n - gone;
            return took;
        }

        int wayNow() {
            return ways[step % AIRS];
        }

        int pass(int way) {
            tellAll();
            int took = takeAll();
            carry(way);
            step++;
            return took;
        }

        void tellAll() {
            for (int l = 0; l < lives; l++) {
                int much = Math.min(paces[l], lefts[l]);
                lefts[l] -= much;
                aloft[l] += much;
                cells[l * CELLS + tables[l]] += much;
            }
        }

        int takeAll() {
            int took = 0;
            for (int i = 0; i < sitters; i++) {
                int room = sleeves[i];
                for (int l = 0; l < lives && room > 0; l++) {
                    int much = Math.min(room, cells[l * CELLS + places[i]]);
                    cells[l * CELLS + places[i]] -= much;
                    aloft[l] -= much;
                    holds[i * MOST_LIVES + l] += much;
                    room -= much;
                }
                took += sleeves[i] - room;
            }
            return took;
        }

        /** Leeward CELLS go first: then none moves on what it has just been given. */
        void carry(int way) {
            if (way == STILL) {
                return;
            }
            boolean isDown = way == X_MORE || way == Y_MORE;
            for (int l = 0; l < lives; l++) {
                int rest = aloft[l];
                for (int k = 0; k < CELLS && rest > 0; k++) {
                    int cell = isDown ? CELLS - 1 - k : k;
                    int much = cells[l * CELLS + cell];
                    int gone = much > 0 ? moved(kinds[l], much) : 0;
                    rest -= much;
                    if (gone > 0) {
                        cells[l * CELLS + cell] -= gone;
                        give(l, beside(cell, way), gone);
                    }
                }
            }
        }

        void give(int l, int cell, int much) {
            if (cell < 0) {
                lost[l] += much;
                aloft[l] -= much;
            } else {
                cells[l * CELLS + cell] += much;
            }
        }

        static int moved(int kind, int much) {
            int plain = (much + 1) / 2;
            switch (kind) {
                case PLAIN: return plain;
                case HEAVY: return plain / 2;
                case THIN: return much;
                default: return Math.min(much, plain / 2 + 1);
            }
        }

        /** The next CELL by a WAY; -1: there is none. */
        static int beside(int cell, int way) {
            int x = cell / ROWS;
            int y = cell % ROWS;
            switch (way) {
                case X_MORE: return x < COLUMNS - 1 ? cell + ROWS : -1;
                case X_LESS: return x > 0 ? cell - ROWS : -1;
                case Y_MORE: return y < ROWS - 1 ? cell + 1 : -1;
                case Y_LESS: return y > 0 ? cell - 1 : -1;
                default: return cell;
            }
        }
    }

    /** What was SEEN, in the order in which it came. */
    private static final class Seen {
        int count = 0;
        final int[] who = new int[MOST_SEEN];
        final int[] whose = new int[MOST_SEEN];
        final int[] when = new int[MOST_SEEN];
        final int[] much = new int[MOST_SEEN];

        void copyOf(Seen other) {
            count = other.count;
            System.arraycopy(other.who, 0, who, 0, MOST_SEEN);
            System.arraycopy(other.whose, 0, whose, 0, MOST_SEEN);
            System.arraycopy(other.when, 0, when, 0, MOST_SEEN);
            System.arraycopy(other.much, 0, much, 0, MOST_SEEN);
        }

        boolean put(int i, int l, int n, int v) {
            if (count >= MOST_SEEN) {
                return false;
            }
            who[count] = i;
            whose[count] = l;
            when[count] = n;
            much[count] = v;
            count++;
            return true;
        }

        int farthest() {
            int most = 0;
            for (int k = 0; k < count; k++) {
                most = Math.max(most, when[k]);
            }
            return most;
        }

        /** Runs the room n STEPS, as far as all is as SEEN. */
        boolean fits(Room room, int n) {
            for (int k = 0; k < n; k++) {
                if (!fitsBehind(room, k)) {
                    return false;
                }
                room.pass(room.wayNow());
            }
            return fitsBehind(room, n);
        }

        boolean fitsBehind(Room room, int n) {
            for (int k = 0; k < count; k++) {
                if (when[k] == n && room.held(who[k], whose[k]) != much[k]) {
                    return false;
                }
            }
            return true;
        }
    }

    private static final class Image {
        boolean kept = false;
        final Room room = new Room();
        final Seen seen = new Seen();
    }

    /** Fractions over all the ways in which the AIRS may fall still, one room a STEP deep. */
    private static final class Odds {
        final Room[] rooms = new Room[MOST_CHANCES];
        int still = 0;
        int whom = 0;
        int last = 0;
        boolean isMean = false;
        long above = 0;
        long below = 1;

        Odds() {
            for (int k = 0; k < MOST_CHANCES; k++) {
                rooms[k] = new Room();
            }
        }

        void weigh(Room from, int v, int i, int n, boolean mean) {
            still = v;
            whom = i;
            last = n - 1;
            isMean = mean;
            above = 0;
            below = 1;
            if (n > 0) {
                rooms[0].copyOf(from);
                above = weightBehind(0);
                below = tenTo(n);
            }
            reduce();
        }

        /** What is due of STEP k and those behind it, times ten for each of them: so it stays whole. */
        private long weightBehind(int k) {
            Room room = rooms[k];
            int had = room.heldBy(whom);
            room.tellAll();
            room.takeAll();
            int took = room.heldBy(whom) - had;
            if (!isMean && took > 0) {
                return tenTo(last - k + 1);
            }
            long sure = isMean ? took * tenTo(last - k + 1) : 0;
            return k < last ? sure + weightOfAirs(k) : sure;
        }

        private long weightOfAirs(int k) {
            int way = rooms[k].wayNow();
            if (way == STILL) {
                return 10 * weightBy(k, STILL);
            }
            long weight = 0;
            if (still > 0) {
                weight += still * weightBy(k, STILL);
            }
            if (still < 10) {
                weight += (10 - still) * weightBy(k, way);
            }
            return weight;
        }

        private long weightBy(int k, int way) {
            if (k + 1 >= MOST_CHANCES) {
                return 0;
            }
            Room next = rooms[k + 1];
            next.copyOf(rooms[k]);
            next.carry(way);
            next.step++;
            return weightBehind(k + 1);
        }

        static long tenTo(int n) {
            long ten = 1;
            for (int k = 0; k < n; k++) {
                ten *= 10;
            }
            return ten;
        }

        /** The denominator is a power of ten: no other divisors than 2 and 5 are shared; 0 shares them all. */
        void reduce() {
            for (int k = 0; k < MOST_CHANCES && above % 2 == 0 && below % 2 == 0; k++) {
                above /= 2;
                below /= 2;
            }
            for (int k = 0; k < MOST_CHANCES && above % 5 == 0 && below % 5 == 0; k++) {
                above /= 5;
                below /= 5;
            }
        }
    }

    /** THE TAPE, and how its TOKENS are read; a fault stands at the TOKEN that was read last. */
    private static final class Tape {
        private static final int END = 0, NAME = 1, NUMBER = 2, SEMICOLON = 3, NO_SIGN = 4;
        private static final int NO_TOKEN = 1, MISPLACED = 2, OUT_OF_BOUNDS = 3, TOLD_ALREADY = 4, TOO_MANY = 5;
        private static final int SITTER = 4, AIR = 5, PRICE = 6, NO_WORD = 7;

        final byte[] bytes = new byte[TAPE_BYTES];
        int length = 0;
        int fault = 0;
        int start = 0;
        int next = 0;
        int token = END;
        int number = 0;
        int told = 0;

        boolean put(int c) {
            if (length >= TAPE_BYTES) {
                return false;
            }
            bytes[length] = (byte) c;
            length++;
            return true;
        }

        /** How many lines; the room is of no use if there is a fault. */
        int tell(Room room) {
            room.clear();
            fault = 0;
            next = 0;
            told = 0;
            int lines = 0;
            // each line takes bytes, so no text has more of them than the tape
            while (lines <= TAPE_BYTES && readToken() && token != END && readLine(room)) {
                lines++;
            }
            return lines;
        }

        boolean refuse(int why) {
            fault = why;
            return false;
        }

        boolean readToken() {
            while (next < length && bytes[next] == ' ') {
                next++;
            }
            start = next;
            token = next < length ? tokenOf(bytes[next]) : END;
            if (token == END) {
                return true;
            }
            next++;
            boolean isRun = token == NAME || token == NUMBER;
            while (isRun && next < length && tokenOf(bytes[next]) == token) {
                next++;
            }
            if (token == NO_SIGN || token == NUMBER && next - start > 2) {
                return refuse(NO_TOKEN);
            }
            return true;
        }

        static int tokenOf(byte sign) {
            if (sign >= 'a' && sign <= 'z') {
                return NAME;
            }
            if (sign >= '0' && sign <= '9') {
                return NUMBER;
            }
            return sign == ';' ? SEMICOLON : NO_SIGN;
        }

        /** Its first TOKEN has been read. */
        boolean readLine(Room room) {
            int word = token == NAME ? wordRead() : NO_WORD;
            boolean isTold;
            switch (word) {
                case NO_WORD: return refuse(MISPLACED);
                case SITTER: isTold = readSitter(room); break;
                case AIR: isTold = readOnce(room.ways, 0, Y_LESS); break;
                case PRICE: isTold = readOnce(room.prices, AIRS, MOST_PRICE); break;
                default: isTold = readLife(room, word); break;
            }
            return isTold && readToken() && (token == SEMICOLON || refuse(MISPLACED));
        }

        int wordRead() {
            if (isWord("plain")) {
                return PLAIN;
            }
            if (isWord("heavy")) {
                return HEAVY;
            }
            if (isWord("thin")) {
                return THIN;
            }
            if (isWord("happy")) {
                return HAPPY;
            }
            if (isWord("sitter")) {
                return SITTER;
            }
            if (isWord("air")) {
                return AIR;
            }
            return isWord("price") ? PRICE : NO_WORD;
        }

        boolean isWord(String word) {
            if (next - start != word.length()) {
                return false;
            }
            for (int k = 0; k < word.length(); k++) {
                if (bytes[start + k] != word.charAt(k)) {
                    return false;
                }
            }
            return true;
        }

        boolean readLife(Room room, int kind) {
            int l = room.lives;
            if (l >= MOST_LIVES) {
                return refuse(TOO_MANY);
            }
            room.kinds[l] = kind;
            if (!readNumber(0, MOST_LEFT) || !namesCell()) {
                return false;
            }
            room.tables[l] = cellOf(number);
            if (!readNumber(1, MOST_PACE)) {
                return false;
            }
            room.paces[l] = number;
            if (!readNumber(0, MOST_LEFT)) {
                return false;
            }
            room.lefts[l] = number;
            room.lives++;
            return true;
        }

        boolean readSitter(Room room) {
            int i = room.sitters;
            if (i >= MOST_SITTERS) {
                return refuse(TOO_MANY);
            }
            if (!readNumber(0, MOST_LEFT) || !namesCell()) {
                return false;
            }
            room.places[i] = cellOf(number);
            if (!readNumber(0, MOST_SLEEVE)) {
                return false;
            }
            room.sleeves[i] = number;
            room.sitters++;
            return true;
        }

        /** Which of the row, and its number; the bits of what is told already of the row begin at its first bit. */
        boolean readOnce(int[] row, int first, int most) {
            if (!readNumber(0, row.length - 1)) {
                return false;
            }
            int k = number;
            int bit = 1 << (first + k);
            if ((told & bit) != 0) {
                return refuse(TOLD_ALREADY);
            }
            told |= bit;
            if (!readNumber(0, most)) {
                return false;
            }
            row[k] = number;
            return true;
        }

        /** Asked behind readNumber() and not around it: the calls would go too deep. */
        boolean namesCell() {
            return isCell(number) || refuse(OUT_OF_BOUNDS);
        }

        boolean readNumber(int least, int most) {
            if (!readToken()) {
                return false;
            }
            if (token != NUMBER) {
                return refuse(MISPLACED);
            }
            number = 0;
            for (int k = start; k < next; k++) {
                number = number * 10 + bytes[k] - '0';
            }
            return isWithin(number, least, most) || refuse(OUT_OF_BOUNDS);
        }
    }

    /** A row of BYTES, SHORTS or INTS, held as ints that its lane has cut. */
    private static final class Sheet {
        private static final int NOTHING = -1, BYTES = 0, SHORTS = 1;

        int lane = NOTHING;
        int size = 0;
        final int[] row = new int[SHEET_CELLS];

        boolean isNothing() {
            return lane == NOTHING;
        }

        void renew(int ofLane, int n) {
            lane = ofLane;
            size = n;
            Arrays.fill(row, 0);
        }

        void put(int i, int v) {
            row[i] = lane == BYTES ? (byte) v : lane == SHORTS ? (short) v : v;
        }

        /** What the machine would find, in its order: a cast lets null pass, and comes ahead of the index. */
        int faultAt(int asLane, int i) {
            if (isNothing()) {
                return NULL_FAULT;
            }
            if (lane != asLane) {
                return CAST_FAULT;
            }
            return i < 0 || i >= size ? INDEX_FAULT : 0;
        }

        int faultOfPair(int asLane, int i) {
            int found = faultAt(asLane, i);
            return found != 0 ? found : faultAt(asLane, i + 1);
        }
    }
}
