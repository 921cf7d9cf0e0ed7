import java.math.BigInteger;
import java.util.ArrayList;
import java.util.Arrays;
import java.util.HashMap;
import java.util.List;
import java.util.Map;
import java.util.regex.Matcher;
import java.util.regex.Pattern;

/** A slow second reading of the document, with other means than the class: it is what ModelTest compares with. */
public final class Model {
    private static final class Life {
        int kind, x, y, pace, left, lost;
        int[][] in = new int[5][4];

        Life copy() {
            Life c = new Life();
            c.kind = kind;
            c.x = x;
            c.y = y;
            c.pace = pace;
            c.left = left;
            c.lost = lost;
            for (int k = 0; k < 5; k++) {
                c.in[k] = in[k].clone();
            }
            return c;
        }

        int inCells() {
            int sum = 0;
            for (int[] column : in) {
                sum += Arrays.stream(column).sum();
            }
            return sum;
        }
    }

    private static final class Sitter {
        int x, y, sleeve;
        int[] has = new int[3];

        Sitter copy() {
            Sitter c = new Sitter();
            c.x = x;
            c.y = y;
            c.sleeve = sleeve;
            c.has = has.clone();
            return c;
        }

        int all() {
            return Arrays.stream(has).sum();
        }
    }

    private static final class World {
        List<Life> lives = new ArrayList<>();
        List<Sitter> sitters = new ArrayList<>();
        int[] airs = new int[6];
        int[] prices = new int[4];
        int step = 0;
        List<int[]> seen = new ArrayList<>();

        World copy() {
            World c = new World();
            lives.forEach(l -> c.lives.add(l.copy()));
            sitters.forEach(s -> c.sitters.add(s.copy()));
            c.airs = airs.clone();
            c.prices = prices.clone();
            c.step = step;
            c.seen.addAll(seen);
            return c;
        }

        World after(int n) {
            World c = copy();
            for (int k = 0; k < n; k++) {
                c.step(c.airs[c.step % 6]);
            }
            return c;
        }

        void step(int way) {
            for (Life l : lives) {
                for (int k = 0; k < l.pace && l.left > 0; k++) {
                    l.left--;
                    l.in[l.x][l.y]++;
                }
            }
            for (Sitter s : sitters) {
                for (int k = 0; k < s.sleeve; k++) {
                    takeOne(s);
                }
            }
            if (way != 0) {
                lives.forEach(l -> drift(l, way));
            }
            step++;
        }

        private void takeOne(Sitter s) {
            for (int l = 0; l < lives.size(); l++) {
                if (lives.get(l).in[s.x][s.y] > 0) {
                    lives.get(l).in[s.x][s.y]--;
                    s.has[l]++;
                    return;
                }
            }
        }

        private static void drift(Life l, int way) {
            int dx = way == 1 ? 1 : way == 2 ? -1 : 0;
            int dy = way == 3 ? 1 : way == 4 ? -1 : 0;
            int[][] then = new int[5][4];
            for (int x = 0; x < 5; x++) {
                for (int y = 0; y < 4; y++) {
                    int m = moves(l.kind, l.in[x][y]);
                    then[x][y] += l.in[x][y] - m;
                    int tx = x + dx;
                    int ty = y + dy;
                    if (tx < 0 || tx > 4 || ty < 0 || ty > 3) {
                        l.lost += m;
                    } else {
                        then[tx][ty] += m;
                    }
                }
            }
            l.in = then;
        }

        static int moves(int kind, int q) {
            int plain = q - q / 2;
            int heavy = (int) Math.floor(plain / 2.0);
            return new int[] {plain, heavy, q, Math.min(q, heavy + 1)}[kind];
        }

        int have() {
            return sitters.stream().mapToInt(Sitter::all).sum();
        }

        int lost() {
            return lives.stream().mapToInt(l -> l.lost).sum();
        }

        int inCells() {
            return lives.stream().mapToInt(Life::inCells).sum();
        }

        int left() {
            return lives.stream().mapToInt(l -> l.left).sum();
        }

        boolean isAsSeen() {
            return seen.stream().allMatch(s -> after(s[2]).sitters.get(s[0]).has[s[1]] == s[3]);
        }
    }

    private World w = new World();
    private final World[] images = new World[2];
    private String tape = "";
    private int fault = 0;
    private final Object[] sheets = new Object[4];
    private int torn = 0;

    // ---- the text

    public int feed(int c) {
        if (c < 0 || c > 127) {
            return -1;
        }
        if (tape.length() == 160) {
            return -3;
        }
        tape += (char) c;
        return tape.length();
    }

    public int end(int n) {
        if (n < 0 || n > tape.length()) {
            return -1;
        }
        int had = tape.length();
        tape = tape.substring(0, n);
        return had;
    }

    /** A fault of the text: its number and its place. */
    private static final class Fault extends RuntimeException {
        private static final long serialVersionUID = 1L;
        final int number;
        final int place;

        Fault(int number, int place) {
            this.number = number;
            this.place = place;
        }
    }

    private static final Pattern TOKEN = Pattern.compile("[a-z]+|[0-9]+|;");
    private static final Map<String, int[][]> LINES = new HashMap<>();

    static {
        int[] cell = {-1, -1};
        int[][] life = {cell, {1, 9}, {0, 99}};
        LINES.put("plain", life);
        LINES.put("heavy", life);
        LINES.put("thin", life);
        LINES.put("happy", life);
        LINES.put("sitter", new int[][] {cell, {0, 9}});
        LINES.put("air", new int[][] {{0, 5}, {0, 4}});
        LINES.put("price", new int[][] {{0, 3}, {0, 9}});
    }

    private int place;
    private String token;

    private String next(String from, int at) {
        while (at < from.length() && from.charAt(at) == ' ') {
            at++;
        }
        place = at;
        token = "";
        if (at < from.length()) {
            Matcher m = TOKEN.matcher(from).region(at, from.length());
            if (!m.lookingAt() || m.group().matches("[0-9]{3,}")) {
                throw new Fault(1, at);
            }
            token = m.group();
        }
        return token;
    }

    private int behind() {
        return place + token.length();
    }

    public int text() {
        World t = new World();
        String from = tape;
        tape = "";
        fault = 0;
        int lines = 0;
        try {
            List<String> told = new ArrayList<>();
            while (!next(from, lines == 0 ? 0 : behind()).isEmpty()) {
                line(t, from, told);
                lines++;
            }
        } catch (Fault f) {
            fault = f.number;
            return -10 - f.place;
        }
        w = t;
        Arrays.fill(images, null);
        return lines;
    }

    private void line(World t, String from, List<String> told) {
        String name = token;
        int[][] bounds = LINES.get(name);
        if (bounds == null) {
            throw new Fault(2, place);
        }
        if (bounds.length == 3 && t.lives.size() == 3 || name.equals("sitter") && t.sitters.size() == 4) {
            throw new Fault(5, place);
        }
        int[] n = new int[3];
        for (int k = 0; k < bounds.length; k++) {
            if (!next(from, behind()).matches("[0-9]+")) {
                throw new Fault(2, place);
            }
            n[k] = Integer.parseInt(token);
            boolean isIn = bounds[k][0] == -1 ? isCell(n[k]) : n[k] >= bounds[k][0] && n[k] <= bounds[k][1];
            if (!isIn) {
                throw new Fault(3, place);
            }
            if (k == 0 && (name.equals("air") || name.equals("price"))) {
                if (told.contains(name + n[0])) {
                    throw new Fault(4, place);
                }
                told.add(name + n[0]);
            }
        }
        if (!next(from, behind()).equals(";")) {
            throw new Fault(2, place);
        }
        take(t, name, n);
    }

    private static void take(World t, String name, int[] n) {
        if (name.equals("air")) {
            t.airs[n[0]] = n[1];
        } else if (name.equals("price")) {
            t.prices[n[0]] = n[1];
        } else if (name.equals("sitter")) {
            Sitter s = new Sitter();
            s.x = n[0] / 10;
            s.y = n[0] % 10;
            s.sleeve = n[1];
            t.sitters.add(s);
        } else {
            Life l = new Life();
            l.kind = List.of("plain", "heavy", "thin", "happy").indexOf(name);
            l.x = n[0] / 10;
            l.y = n[0] % 10;
            l.pace = n[1];
            l.left = n[2];
            t.lives.add(l);
        }
    }

    private static boolean isCell(int c) {
        return c >= 0 && c / 10 <= 4 && c % 10 <= 3;
    }

    public int fault() {
        return fault;
    }

    private boolean isNoLife(int l) {
        return l < 0 || l >= w.lives.size();
    }

    private boolean isNoSitter(int i) {
        return i < 0 || i >= w.sitters.size();
    }

    public int rule(int what) {
        int[] all = {w.lives.size(), w.sitters.size(), w.step, w.inCells(), w.lost(), w.have()};
        return what < 0 || what > 5 ? -1 : all[what];
    }

    public int life(int l, int what) {
        if (isNoLife(l) || what < 0 || what > 6) {
            return -1;
        }
        Life f = w.lives.get(l);
        int have = w.sitters.stream().mapToInt(s -> s.has[l]).sum();
        return new int[] {f.kind, 10 * f.x + f.y, f.pace, f.left, f.inCells(), f.lost, have}[what];
    }

    public int sitter(int i, int what) {
        if (isNoSitter(i) || what < 0 || what > 3) {
            return -1;
        }
        Sitter s = w.sitters.get(i);
        return new int[] {10 * s.x + s.y, s.sleeve, s.all(), w.prices[s.y]}[what];
    }

    public int has(int i, int l) {
        return isNoSitter(i) || isNoLife(l) ? -1 : w.sitters.get(i).has[l];
    }

    public int in(int cell, int l) {
        return !isCell(cell) || isNoLife(l) ? -1 : w.lives.get(l).in[cell / 10][cell % 10];
    }

    public int air(int k) {
        return k < 0 || k > 5 ? -1 : w.airs[k];
    }

    // ---- what is changed

    public int alter(int l, int what, int v) {
        int was = what > 3 ? -1 : life(l, what);
        boolean isNo = what == 0 && (v < 0 || v > 3) || what == 1 && !isCell(v)
            || what == 2 && (v < 1 || v > 9) || what == 3 && (v < 0 || v > 99);
        if (was == -1 || isNo) {
            return -1;
        }
        Life f = w.lives.get(l);
        f.kind = what == 0 ? v : f.kind;
        f.x = what == 1 ? v / 10 : f.x;
        f.y = what == 1 ? v % 10 : f.y;
        f.pace = what == 2 ? v : f.pace;
        f.left = what == 3 ? v : f.left;
        return was;
    }

    public int seat(int i, int what, int v) {
        int was = what > 1 ? -1 : sitter(i, what);
        if (was == -1 || what == 0 && !isCell(v) || what == 1 && (v < 0 || v > 9)) {
            return -1;
        }
        Sitter s = w.sitters.get(i);
        s.x = what == 0 ? v / 10 : s.x;
        s.y = what == 0 ? v % 10 : s.y;
        s.sleeve = what == 1 ? v : s.sleeve;
        return was;
    }

    public int blow(int k, int v) {
        if (k < 0 || k > 5 || v < 0 || v > 4) {
            return -1;
        }
        int was = w.airs[k];
        w.airs[k] = v;
        return was;
    }

    public int price(int y, int v) {
        if (y < 0 || y > 3 || v < 0 || v > 9) {
            return -1;
        }
        int was = w.prices[y];
        w.prices[y] = v;
        return was;
    }

    public int open() {
        int much = w.inCells();
        for (Life l : w.lives) {
            l.lost += l.inCells();
            l.in = new int[5][4];
        }
        return much;
    }

    // ---- steps

    public int steps(int n) {
        if (n < 0 || n > 30) {
            return -1;
        }
        if (w.step + n >= 1000) {
            return -3;
        }
        int had = w.have();
        w = w.after(n);
        return w.have() - had;
    }

    public int runs(int n, int what) {
        if (n < 0 || n > 60 || what < 0 || what > 3) {
            return -1;
        }
        if (what == 3) {
            for (int k = 0; k <= n; k++) {
                World t = w.after(k);
                for (int i = 0; i < w.sitters.size(); i++) {
                    if (t.sitters.get(i).all() > w.sitters.get(i).all()) {
                        return k;
                    }
                }
            }
            return -4;
        }
        World t = w.after(n);
        return what == 0 ? t.have() : what == 1 ? t.lost() : t.inCells();
    }

    public int ahead(int i, int l, int n) {
        return isNoSitter(i) || isNoLife(l) || n < 0 || n > 60 ? -1 : w.after(n).sitters.get(i).has[l];
    }

    public int wet(int i, int l) {
        if (isNoSitter(i) || isNoLife(l)) {
            return -1;
        }
        int k = 1;
        while (k <= 60 && w.after(k).sitters.get(i).has[l] == has(i, l)) {
            k++;
        }
        return k > 60 ? -4 : k;
    }

    public int over() {
        for (int k = 0; k <= 60; k++) {
            World t = w.after(k);
            if (t.inCells() + t.left() == 0) {
                return k;
            }
        }
        return -4;
    }

    // ---- what is best

    private World seated(int i, int cell, int n) {
        World t = w.copy();
        t.sitters.get(i).x = cell / 10;
        t.sitters.get(i).y = cell % 10;
        return t.after(n);
    }

    private static List<Integer> cells() {
        List<Integer> all = new ArrayList<>();
        for (int c = 0; c < 50; c++) {
            if (isCell(c)) {
                all.add(c);
            }
        }
        return all;
    }

    public int best(int i, int l, int n) {
        if (isNoSitter(i) || isNoLife(l) || n < 0 || n > 60) {
            return -1;
        }
        Map<Integer, Integer> much = new HashMap<>();
        cells().forEach(c -> much.put(c, seated(i, c, n).sitters.get(i).has[l]));
        int most = much.values().stream().max(Integer::compare).get();
        return cells().stream().filter(c -> much.get(c) == most).findFirst().get();
    }

    public int cheap(int i, int l, int v) {
        if (isNoSitter(i) || isNoLife(l) || v < 1 || v > 999) {
            return -1;
        }
        return cells().stream().filter(c -> seated(i, c, 30).sitters.get(i).has[l] >= v)
            .min((a, b) -> w.prices[a % 10] != w.prices[b % 10] ? w.prices[a % 10] - w.prices[b % 10] : a - b)
            .orElse(-4);
    }

    public int clean(int i, int n, int what) {
        if (isNoSitter(i) || n < 0 || n > 60 || what < 0 || what > 1) {
            return -1;
        }
        Map<Integer, Integer> took = new HashMap<>();
        cells().forEach(c -> took.put(c, seated(i, c, n).sitters.get(i).all() - sitter(i, 2)));
        int least = took.values().stream().min(Integer::compare).get();
        return what == 1 ? least : cells().stream().filter(c -> took.get(c) == least).findFirst().get();
    }

    public int need(int i, int l, int v) {
        if (isNoSitter(i) || isNoLife(l) || v < 1 || v > 999) {
            return -1;
        }
        for (int sleeve = 0; sleeve < 10; sleeve++) {
            World t = w.copy();
            t.sitters.get(i).sleeve = sleeve;
            if (t.after(30).sitters.get(i).has[l] >= v) {
                return sleeve;
            }
        }
        return -4;
    }

    public int swap(int n, int what) {
        if (n < 0 || n > 60 || what < 0 || what > 1) {
            return -1;
        }
        int most = w.after(n).have();
        int who = -4;
        for (int pair = 0; pair < 100; pair++) {
            int a = pair / 10;
            int b = pair % 10;
            if (a < b && b < w.sitters.size()) {
                World t = w.copy();
                Sitter p = t.sitters.get(a);
                Sitter q = t.sitters.get(b);
                int x = p.x;
                int y = p.y;
                p.x = q.x;
                p.y = q.y;
                q.x = x;
                q.y = y;
                int have = t.after(n).have();
                who = have > most ? pair : who;
                most = Math.max(have, most);
            }
        }
        return who < 0 || what == 0 ? who : most;
    }

    public int fan(int i, int n, int what) {
        if (isNoSitter(i) || n < 0 || n > 60 || what < 0 || what > 1) {
            return -1;
        }
        int most = w.after(n).sitters.get(i).all();
        int which = -4;
        for (int pair = 0; pair < 60; pair++) {
            if (pair % 10 < 5) {
                World t = w.copy();
                t.airs[pair / 10] = pair % 10;
                int his = t.after(n).sitters.get(i).all();
                which = his > most ? pair : which;
                most = Math.max(his, most);
            }
        }
        return which < 0 || what == 0 ? which : most;
    }

    // ---- airs that fall still

    private long odds(int v, int i, int n, int what, boolean isMean) {
        if (v < 0 || v > 10 || isNoSitter(i) || n < 0 || n > 8 || what < 0 || what > 1) {
            return -1;
        }
        BigInteger sum = BigInteger.ZERO;
        for (int bits = 0; bits < 1 << n; bits++) {
            World t = w.copy();
            BigInteger weight = BigInteger.ONE;
            for (int k = 0; k < n; k++) {
                boolean isStill = (bits >> k & 1) == 1;
                weight = weight.multiply(BigInteger.valueOf(isStill ? v : 10 - v));
                t.step(isStill ? 0 : t.airs[t.step % 6]);
            }
            int took = t.sitters.get(i).all() - sitter(i, 2);
            sum = sum.add(weight.multiply(BigInteger.valueOf(isMean ? took : Math.min(took, 1))));
        }
        BigInteger below = BigInteger.TEN.pow(n);
        BigInteger shared = sum.gcd(below);
        return (what == 0 ? sum : below).divide(shared).longValueExact();
    }

    public long luck(int v, int i, int n, int what) {
        return odds(v, i, n, what, false);
    }

    public long mean(int v, int i, int n, int what) {
        return odds(v, i, n, what, true);
    }

    // ---- whose it was

    public int see(int i, int l, int n, int v) {
        if (isNoSitter(i) || isNoLife(l) || n < 0 || n > 30 || v < 0 || v > 999) {
            return -1;
        }
        if (w.seen.size() == 6) {
            return -3;
        }
        w.seen.add(new int[] {i, l, n, v});
        return w.seen.size();
    }

    public int forget(int n) {
        int had = w.seen.size();
        if (n < 0 || n > had) {
            return -1;
        }
        w.seen = new ArrayList<>(w.seen.subList(0, n));
        return had;
    }

    public int kinds(int l) {
        if (isNoLife(l)) {
            return -1;
        }
        int bits = 0;
        for (int kind = 0; kind < 4; kind++) {
            World t = w.copy();
            t.lives.get(l).kind = kind;
            bits += t.isAsSeen() ? 1 << kind : 0;
        }
        return bits;
    }

    private List<World> fromWorlds(int l) {
        List<World> all = new ArrayList<>();
        for (int c : cells()) {
            World t = w.copy();
            t.lives.get(l).x = c / 10;
            t.lives.get(l).y = c % 10;
            if (t.isAsSeen()) {
                all.add(t);
            }
        }
        return all;
    }

    public int froms(int l, int what) {
        if (isNoLife(l) || what < 0 || what > 1) {
            return -1;
        }
        List<World> all = fromWorlds(l);
        if (what == 0) {
            return all.size();
        }
        return all.isEmpty() ? -4 : 10 * all.get(0).lives.get(l).x + all.get(0).lives.get(l).y;
    }

    public int ask(int l, int what) {
        if (isNoLife(l) || what < 0 || what > 1) {
            return -1;
        }
        List<World> all = fromWorlds(l);
        int fewest = all.size();
        int whom = -4;
        for (int i = 0; i < w.sitters.size(); i++) {
            Map<Integer, Integer> groups = new HashMap<>();
            for (World t : all) {
                groups.merge(t.after(30).sitters.get(i).has[l], 1, Integer::sum);
            }
            int worst = groups.values().stream().max(Integer::compare).orElse(0);
            if (worst < fewest) {
                fewest = worst;
                whom = i;
            }
        }
        return whom < 0 || what == 0 ? whom : fewest;
    }

    // ---- by a seed

    public int drift(int seed, int n, int what) {
        if (n < 1 || n > 60 || what < 0 || what > 1) {
            return -1;
        }
        if (w.lives.isEmpty()) {
            return -2;
        }
        World t = w.copy();
        long s = seed;
        for (int k = 0; k < n; k++) {
            s = s * 1103515245L + 12345L & 0xffffffffL;
            t.step((int) ((s / 65536 & 32767) % 5));
        }
        return what == 0 ? t.have() - w.have() : t.lost() - w.lost();
    }

    // ---- images, sheets

    public int keep(int k) {
        if (k < 0 || k > 1) {
            return -1;
        }
        int was = images[k] == null ? 0 : 1;
        images[k] = w.copy();
        return was;
    }

    public int back(int k) {
        if (k < 0 || k > 1) {
            return -1;
        }
        if (images[k] == null) {
            return -2;
        }
        w = images[k].copy();
        return w.step;
    }

    public int sheet(int k, int lane, int n) {
        if (k < 0 || k > 3 || lane < 0 || lane > 2 || n > 40) {
            return -1;
        }
        try {
            sheets[k] = lane == 0 ? new byte[n] : lane == 1 ? new short[n] : new int[n];
            return 1;
        } catch (NegativeArraySizeException e) {
            return -14;
        }
    }

    public int lay(int k, int i, int v) {
        if (k < 0 || k > 3) {
            return -1;
        }
        try {
            if (sheets[k] instanceof byte[]) {
                ((byte[]) sheets[k])[i] = (byte) v;
            } else if (sheets[k] instanceof short[]) {
                ((short[]) sheets[k])[i] = (short) v;
            } else {
                ((int[]) sheets[k])[i] = v;
            }
            return 1;
        } catch (NullPointerException e) {
            return -11;
        } catch (ArrayIndexOutOfBoundsException e) {
            return -12;
        }
    }

    private int cellOf(int k, int lane, int i) {
        return lane == 0 ? ((byte[]) sheets[k])[i] : lane == 1 ? ((short[]) sheets[k])[i] : ((int[]) sheets[k])[i];
    }

    public int read(int k, int lane, int f, int n) {
        if (k < 0 || k > 3 || lane < 0 || lane > 2 || n < 0 || n > 20) {
            return -1;
        }
        World before = w.copy();
        int came = 0;
        int found = 0;
        try {
            while (came < n) {
                int i = cellOf(k, lane, f + 2 * came);
                int cell = cellOf(k, lane, f + 2 * came + 1);
                if (w.step == 999 || seat(i, 0, cell) == -1) {
                    w = before;
                    return -20 - came;
                }
                w = w.after(1);
                came++;
            }
        } catch (NullPointerException e) {
            found = 1;
        } catch (ArrayIndexOutOfBoundsException e) {
            found = 2;
        } catch (ClassCastException e) {
            found = 3;
        }
        torn = found;
        return came;
    }

    public int torn() {
        return torn;
    }

    public int count(int what) {
        if (what == 3) {
            return sheets[0] == null ? -4 : java.lang.reflect.Array.getLength(sheets[0]);
        }
        int kept = (images[0] == null ? 0 : 1) + (images[1] == null ? 0 : 1);
        int prices = w.sitters.stream().mapToInt(s -> w.prices[s.y]).sum();
        int[] all = {w.seen.size(), kept, tape.length(), 0, w.left(), prices};
        return what < 0 || what > 5 ? -1 : all[what];
    }
}
