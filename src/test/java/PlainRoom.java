import java.util.ArrayList;
import java.util.Arrays;
import java.util.List;

/**
 * The document a second time, for the tests alone: written straight from its words, with fresh copies
 * everywhere and no thought of speed, so that FlyerRoom can be held against it.
 */
final class PlainRoom {
    static final int NONE = -1, BAD = -2, NO = -3, FULL = -4;

    /** All that an image keeps. */
    static final class World {
        int lanes = 3;
        List<int[]> program = new ArrayList<>();
        List<int[]> beside = new ArrayList<>();
        Integer due = null;
        int[][] parts = new int[6][2];
        List<int[]> slots = new ArrayList<>();
        int[] kind = new int[8];
        int[] span = new int[8];
        int k = 3, m = 5;
        List<int[]> sensors = new ArrayList<>();
        boolean[] stuck = new boolean[6];
        int[] told = new int[6];
        int height, speed, drag = 100, gust, lot, mode, frame, mover;
        int[][] limits = {{-100, 100}, {-100, 100}, {-100, 100}, {-100, 100}};
        String rules = "";
        List<int[]> faults = new ArrayList<>();
        int[][] cells = new int[4][12];
        boolean[] in = {true, true, true, true};
        int[] row = new int[4], away = new int[4], mute = new int[4], slow = new int[4];
        Integer[][] said = new Integer[8][4];
        Integer[] result = new Integer[8];
        int[] sensed = new int[2];
        boolean[] differed = new boolean[4];
        boolean[] put = new boolean[4];
        int failed;
        List<Integer> box = new ArrayList<>();
        long[] time = new long[4], rate = new long[4];

        World copy() {
            World w = new World();
            w.lanes = lanes;
            w.program = new ArrayList<>(program);
            w.beside = new ArrayList<>(beside);
            w.due = due;
            w.parts = deep(parts);
            w.slots = new ArrayList<>(slots);
            w.kind = kind.clone();
            w.span = span.clone();
            w.k = k;
            w.m = m;
            w.sensors = new ArrayList<>(sensors);
            w.stuck = stuck.clone();
            w.told = told.clone();
            w.height = height;
            w.speed = speed;
            w.drag = drag;
            w.gust = gust;
            w.lot = lot;
            w.mode = mode;
            w.frame = frame;
            w.mover = mover;
            w.limits = deep(limits);
            w.rules = rules;
            w.faults = new ArrayList<>(faults);
            w.cells = deep(cells);
            w.in = in.clone();
            w.row = row.clone();
            w.away = away.clone();
            w.mute = mute.clone();
            w.slow = slow.clone();
            for (int i = 0; i < 8; i++) w.said[i] = said[i].clone();
            w.result = result.clone();
            w.sensed = sensed.clone();
            w.differed = differed.clone();
            w.put = put.clone();
            w.failed = failed;
            w.box = new ArrayList<>(box);
            w.time = time.clone();
            w.rate = rate.clone();
            return w;
        }

        int insNow() {
            int n = 0;
            for (int l = 0; l < lanes; l++) if (in[l]) n++;
            return n;
        }

        int tells(int i) {
            if (stuck[i]) return told[i];
            int[] s = sensors.get(i);
            return (s[0] == 0 ? height : speed) + s[1] + s[2] * frame / 16;
        }
    }

    private static int[][] deep(int[][] rows) {
        int[][] copy = new int[rows.length][];
        for (int i = 0; i < rows.length; i++) copy[i] = rows[i].clone();
        return copy;
    }

    private World w = new World();
    private final World[] kept = new World[2];

    // ---- the flight

    static void frame(World w) {
        boolean[] wereIn = w.in.clone();
        if (w.due != null && w.due == w.frame) {
            List<int[]> old = w.program;
            w.program = w.beside;
            w.beside = old;
            w.due = null;
        }
        for (int[] f : w.faults) if (f[1] == w.frame) come(w, f);
        List<List<Long>> bySort = List.of(new ArrayList<>(), new ArrayList<>());
        for (int i = 0; i < w.sensors.size(); i++) {
            w.told[i] = w.tells(i);
            bySort.get(w.sensors.get(i)[0]).add((long) w.told[i]);
        }
        for (int s = 0; s < 2; s++) w.sensed[s] = (int) middle(bySort.get(s));
        w.failed = 0;
        w.said = new Integer[8][4];
        List<int[]> byTicks = new ArrayList<>(w.slots);
        byTicks.sort((x, y) -> Integer.compare(x[1], y[1]));
        for (int l = 0; l < w.lanes; l++) {
            if (!w.in[l]) continue;
            for (int[] s : byTicks) if (!run(w, l, w.parts[s[0]], s[2] - (w.slow[l] > 0 ? 1 : 0))) w.failed++;
        }
        vote(w);
        Arrays.fill(w.put, false);
        for (int l = 0; l < w.lanes; l++) {
            w.row[l] = w.differed[l] ? w.row[l] + 1 : 0;
            if (w.in[l] && w.row[l] >= w.k && w.insNow() > 1) {
                w.in[l] = false;
                w.put[l] = true;
                w.away[l] = 0;
            }
        }
        int told = w.result[0] != null ? w.result[0] : w.mover;
        w.mover = Math.max(w.limits[w.mode][0], Math.min(w.limits[w.mode][1], told));
        move(w);
        for (int l = 0; l < w.lanes; l++) {
            if (wereIn[l]) continue;
            w.away[l]++;
            if (w.away[l] >= w.m) {
                int least = 0;
                while (!w.in[least]) least++;
                w.cells[l] = w.cells[least].clone();
                w.in[l] = true;
                w.row[l] = 0;
                w.away[l] = 0;
            }
        }
        if (fault(w.rules) == NONE) w.mode = (int) Math.max(0, Math.min(3, new Reader(w.rules, w).all()));
        w.frame++;
        for (int l = 0; l < 4; l++) {
            if (w.mute[l] > 0) w.mute[l]--;
            if (w.slow[l] > 0) w.slow[l]--;
        }
    }

    private static void come(World w, int[] f) {
        if (f[0] == 2) {
            w.stuck[f[2]] = true;
        } else if (f[2] < w.lanes) {
            if (f[0] == 3) w.mute[f[2]] = 10;
            if (f[0] == 4) w.slow[f[2]] = 10;
            if (f[0] <= 1) w.cells[f[2]][f[3]] ^= 1 << f[4];
            if (f[0] == 1) w.cells[(f[2] + 1) % w.lanes][f[3]] ^= 1 << f[4];
        }
    }

    static long middle(List<Long> numbers) {
        List<Long> row = new ArrayList<>(numbers);
        row.sort(null);
        int n = row.size();
        if (n == 0) return 0;
        return n % 2 == 1 ? row.get(n / 2) : (row.get(n / 2 - 1) + row.get(n / 2)) / 2;
    }

    private static boolean run(World w, int lane, int[] part, int ticks) {
        int[] x = w.cells[lane];
        int at = part[0];
        while (true) {
            if (at >= part[1] || at < part[0] || at >= w.program.size()) return true;
            if (ticks == 0) return false;
            ticks--;
            int[] s = w.program.get(at);
            int a = s[1], b = s[2], c = s[3];
            if (s[0] == 0) x[a] = b;
            if (s[0] == 1) x[a] = x[b] + x[c];
            if (s[0] == 2) x[a] = x[b] - x[c];
            if (s[0] == 3) x[a] = x[b] * x[c];
            if (s[0] == 4) {
                if (x[c] == 0) return false;
                x[a] = x[b] / x[c];
            }
            if (s[0] == 5) x[a] = Math.min(x[b], x[c]);
            if (s[0] == 6) x[a] = Math.max(x[b], x[c]);
            if (s[0] == 8) x[a] = w.sensed[b];
            if (s[0] == 9 && w.mute[lane] == 0) w.said[b][lane] = x[a];
            if (s[0] == 7 && x[a] > 0) at += b + 1;
            else if (s[0] == 10 && x[a] > 0) at -= b;
            else at++;
        }
    }

    private static void vote(World w) {
        Arrays.fill(w.differed, false);
        Arrays.fill(w.result, null);
        boolean any = false;
        for (int word = 0; word < 8; word++) {
            List<Long> said = new ArrayList<>();
            int able = 0;
            for (int l = 0; l < w.lanes; l++) {
                if (!w.in[l] || w.mute[l] > 0) continue;
                able++;
                if (w.said[word][l] != null) said.add((long) w.said[word][l]);
            }
            if (w.kind[word] == 1 && !said.isEmpty()) w.result[word] = (int) middle(said);
            if (w.kind[word] == 0) {
                for (long v : said) if (2 * said.stream().filter(o -> o == v).count() > able) w.result[word] = (int) v;
            }
            if (w.result[word] == null) continue;
            any = true;
            for (int l = 0; l < w.lanes; l++) {
                if (!w.in[l] || w.mute[l] > 0) continue;
                Integer v = w.said[word][l];
                if (v == null) w.differed[l] = true;
                else if (w.kind[word] == 0 && !v.equals(w.result[word])) w.differed[l] = true;
                else if (w.kind[word] == 1 && Math.abs((long) v - w.result[word]) > w.span[word]) w.differed[l] = true;
            }
        }
        for (int l = 0; any && l < w.lanes; l++) if (w.in[l] && w.mute[l] > 0) w.differed[l] = true;
    }

    private static void move(World w) {
        w.lot = w.lot * 1103515245 + 12345;
        int wind = (w.lot >>> 16 & 65535) % (2 * w.gust + 1) - w.gust;
        long v = w.speed;
        v = v + w.mover + wind - 10 - v * Math.abs(v) / w.drag;
        v = Math.max(-1000000, Math.min(1000000, v));
        long h = Math.max(-1000000, Math.min(1000000, w.height + v));
        w.height = h < 0 ? 0 : (int) h;
        w.speed = h < 0 ? 0 : (int) v;
    }

    // ---- the rules: read and worked in one go, every time anew

    private static final class Off extends RuntimeException {
        final int number;

        Off(int number) {
            super(null, null, false, false);
            this.number = number;
        }
    }

    private static final class Reader {
        private final String text;
        private final World w;
        private int at = 0;
        private int open = 0;

        Reader(String text, World w) {
            this.text = text;
            this.w = w;
        }

        long all() {
            long v = value();
            if (at < text.length()) throw new Off(10 * at + 1);
            return v;
        }

        private boolean next(char sign) {
            while (at < text.length() && text.charAt(at) == ' ') at++;
            if (at >= text.length() || text.charAt(at) != sign) return false;
            at++;
            return true;
        }

        private static long truth(boolean b) {
            return b ? 1 : 0;
        }

        private long value() {
            long v = both();
            while (next('|')) {
                long r = both();
                v = truth(v != 0 || r != 0);
            }
            return v;
        }

        private long both() {
            long v = held();
            while (next('&')) {
                long r = held();
                v = truth(v != 0 && r != 0);
            }
            return v;
        }

        private long held() {
            long v = sum();
            if (next('<')) return truth(v < sum());
            if (next('>')) return truth(v > sum());
            if (next('=')) return truth(v == sum());
            return v;
        }

        private long sum() {
            long v = term();
            while (true) {
                if (next('+')) v += term();
                else if (next('-')) v -= term();
                else return v;
            }
        }

        private long term() {
            long v = unit();
            while (true) {
                if (next('*')) {
                    v *= unit();
                } else if (next('/')) {
                    long r = unit();
                    v = r == 0 ? 0 : v / r;
                } else {
                    return v;
                }
            }
        }

        private long unit() {
            if (next('!')) return truth(unit() == 0);
            if (next('-')) return -unit();
            if (next('(')) {
                if (++open == 9) throw new Off(10 * (at - 1) + 3);
                long v = value();
                if (!next(')')) throw new Off(10 * at + 1);
                open--;
                return v;
            }
            int n = 0;
            for (int l = 0; l < w.lanes; l++) if (w.differed[l]) n++;
            if (next('h')) return w.height;
            if (next('v')) return w.speed;
            if (next('n')) return w.insNow();
            if (next('d')) return n;
            if (next('m')) return w.mode;
            if (next('f')) return w.failed;
            int first = at;
            while (at < text.length() && Character.isDigit(text.charAt(at))) at++;
            if (at == first) throw new Off(10 * at + 1);
            if (at - first > 6) throw new Off(10 * first + 2);
            return Long.parseLong(text.substring(first, at));
        }
    }

    static int fault(String rules) {
        try {
            new Reader(rules, new World()).all();
            return NONE;
        } catch (Off off) {
            return off.number;
        }
    }

    // ---- the calls

    private static boolean in(int x, int low, int high) {
        return low <= x && x <= high;
    }

    private static boolean stepOk(int act, int a, int b, int c) {
        if (!in(act, 0, 10) || !in(a, 0, 11)) return false;
        if (in(act, 1, 6)) return in(b, 0, 11) && in(c, 0, 11);
        if (act == 7 || act == 10) return in(b, 1, 20);
        if (act == 8) return in(b, 0, 1);
        if (act == 9) return in(b, 0, 7);
        return true;
    }

    private static int sealOf(List<int[]> program) {
        int h = 17;
        for (int[] s : program) for (int v : s) h = 31 * h + v;
        return 31 * h + program.size();
    }

    int lanes(int n) {
        if (!in(n, 1, 4)) return BAD;
        if (w.frame > 0) return NO;
        w.lanes = n;
        Arrays.fill(w.in, true);
        w.cells = new int[4][12];
        return 1;
    }

    int step(int act, int a, int b, int c) {
        if (!stepOk(act, a, b, c)) return BAD;
        if (w.frame > 0) return NO;
        if (w.program.size() == 60) return FULL;
        w.program.add(new int[] {act, a, b, c});
        return w.program.size() - 1;
    }

    int part(int part, int from, int to) {
        if (!in(part, 0, 5) || !in(from, 0, 60) || !in(to, 0, 60) || from > to) return BAD;
        w.parts[part] = new int[] {from, to};
        return 1;
    }

    int slot(int part, int first, int ticks) {
        if (!in(part, 0, 5) || !in(first, 0, 39) || !in(ticks, 1, 40)) return BAD;
        boolean[] taken = new boolean[80];
        for (int[] s : w.slots) for (int t = s[1]; t < s[1] + s[2]; t++) taken[t] = true;
        for (int t = first; t < first + ticks; t++) if (t >= 40 || taken[t]) return NO;
        if (w.slots.size() == 8) return FULL;
        w.slots.add(new int[] {part, first, ticks});
        return w.slots.size() - 1;
    }

    int unslot() {
        int n = w.slots.size();
        w.slots.clear();
        return n;
    }

    int word(int word, int kind, int span) {
        if (!in(word, 0, 7) || !in(kind, 0, 1) || !in(span, 0, 100000)) return BAD;
        w.kind[word] = kind;
        w.span[word] = span;
        return 1;
    }

    int aside(int k, int m) {
        if (!in(k, 1, 20) || !in(m, 1, 50)) return BAD;
        w.k = k;
        w.m = m;
        return 1;
    }

    int sensor(int sort, int offset, int drift, int error) {
        if (!in(sort, 0, 1) || !in(offset, -1000, 1000) || !in(drift, -100, 100) || !in(error, 0, 1000)) return BAD;
        if (w.sensors.size() == 6) return FULL;
        w.sensors.add(new int[] {sort, offset, drift, error});
        return w.sensors.size() - 1;
    }

    int body(int height, int speed) {
        if (!in(height, 0, 1000000) || !in(speed, -1000000, 1000000)) return BAD;
        w.height = height;
        w.speed = speed;
        return 1;
    }

    int air(int drag, int gust, int lot) {
        if (!in(drag, 1, 1000) || !in(gust, 0, 50)) return BAD;
        w.drag = drag;
        w.gust = gust;
        w.lot = lot;
        return 1;
    }

    int limit(int mode, int low, int high) {
        if (!in(mode, 0, 3) || !in(low, -1000, 1000) || !in(high, -1000, 1000) || low > high) return BAD;
        w.limits[mode] = new int[] {low, high};
        return 1;
    }

    int write(int character) {
        if (!in(character, 0, 127)) return BAD;
        if (w.rules.length() == 60) return FULL;
        w.rules += (char) character;
        return w.rules.length();
    }

    int erase() {
        int n = w.rules.length();
        w.rules = "";
        return n;
    }

    int fault() {
        return fault(w.rules);
    }

    int fly(int n) {
        if (!in(n, 1, 100)) return -2000;
        for (int i = 0; i < n; i++) frame(w);
        return w.mover;
    }

    int now(int what) {
        if (!in(what, 0, 7)) return -2000000;
        int bits = 0;
        for (int l = 0; l < w.lanes; l++) if (w.differed[l]) bits |= 1 << l;
        return new int[] {w.height, w.speed, w.mover, w.mode, w.frame, w.insNow(), bits, w.failed}[what];
    }

    int cell(int lane, int cell) {
        return in(lane, 0, w.lanes - 1) && in(cell, 0, 11) ? w.cells[lane][cell] : 0;
    }

    int lane(int lane, int what) {
        if (!in(lane, 0, w.lanes - 1) || !in(what, 0, 4)) return BAD;
        return new int[] {w.in[lane] ? 1 : 0, w.row[lane], w.away[lane], w.mute[lane], w.slow[lane]}[what];
    }

    int voted(int word, int what) {
        if (!in(word, 0, 7) || !in(what, 0, w.lanes + 1)) return -2000000000;
        if (what == 1) return w.result[word] != null ? 1 : 0;
        Integer v = what == 0 ? w.result[word] : w.said[word][what - 2];
        return v == null ? 0 : v;
    }

    int sensed(int sort) {
        return in(sort, 0, 1) ? w.sensed[sort] : -2000000000;
    }

    int harm(int sort, int frame, int which, int cell, int bit) {
        if (!in(sort, 0, 4) || !in(frame, 0, 9999)) return BAD;
        if (!in(which, 0, (sort == 2 ? w.sensors.size() : w.lanes) - 1)) return BAD;
        if (sort <= 1 && (!in(cell, 0, 11) || !in(bit, 0, 31))) return BAD;
        if (frame < w.frame) return NO;
        if (w.faults.size() == 8) return FULL;
        w.faults.add(new int[] {sort, frame, which, cell, bit});
        return w.faults.size() - 1;
    }

    int piece(int act, int a, int b, int c) {
        if (!stepOk(act, a, b, c)) return BAD;
        if (w.beside.size() == 60) return FULL;
        w.beside.add(new int[] {act, a, b, c});
        return w.beside.size();
    }

    int leave() {
        int n = w.beside.size();
        w.beside.clear();
        w.due = null;
        return n;
    }

    int seal(int which) {
        return !in(which, 0, 1) ? 0 : sealOf(which == 0 ? w.program : w.beside);
    }

    int begin(int frame, int seal) {
        if (!in(frame, 0, 9999)) return BAD;
        if (frame < w.frame || seal != sealOf(w.beside)) return NO;
        w.due = frame;
        return 1;
    }

    int fate(int lane, int cell, int bit, int k, int what) {
        if (!in(lane, 0, w.lanes - 1) || !in(cell, 0, 11) || !in(bit, 0, 31)) return -100;
        if (!in(k, 1, 20) || !in(what, 0, 3)) return -100;
        World x = w.copy();
        World y = w.copy();
        y.cells[lane][cell] ^= 1 << bit;
        int first = NONE, size = 0, put = NONE;
        for (int i = 0; i < k; i++) {
            frame(x);
            frame(y);
            size = Math.max(size, Math.abs(x.mover - y.mover));
            if (x.mover != y.mover && first == NONE) first = i;
            if (y.put[lane] && !x.put[lane] && put == NONE) put = i;
        }
        boolean alike = true;
        for (int l = 0; l < w.lanes; l++) {
            alike &= Arrays.equals(x.cells[l], y.cells[l]) && x.row[l] == y.row[l];
            alike &= x.in[l] == y.in[l] && x.away[l] == y.away[l];
        }
        int fate = first != NONE ? 2 : put != NONE ? 1 : alike ? 0 : 3;
        return new int[] {fate, first, size, put}[what];
    }

    int fates(int lane, int k, int fate) {
        if (!in(lane, 0, w.lanes - 1) || !in(k, 1, 20) || !in(fate, 0, 3)) return BAD;
        int n = 0;
        for (int c = 0; c < 12; c++) for (int b = 0; b < 32; b++) if (fate(lane, c, b, k, 0) == fate) n++;
        return n;
    }

    int box(int word) {
        if (!in(word, -1000, 1000)) return BAD;
        if (w.box.size() == 10) return FULL;
        w.box.add(word);
        return w.box.size();
    }

    int unbox() {
        int n = w.box.size();
        w.box.clear();
        return n;
    }

    private boolean gives(int frame, int lane, int cell, int bit) {
        World x = w.copy();
        for (int i = 0; i < w.box.size(); i++) {
            if (i == frame) x.cells[lane][cell] ^= 1 << bit;
            frame(x);
            if (x.mover != w.box.get(i)) return false;
        }
        return true;
    }

    int cause() {
        if (gives(-1, 0, 0, 0)) return -5;
        for (int f = 0; f < w.box.size(); f++) {
            for (int l = 0; l < w.lanes; l++) {
                for (int c = 0; c < 12; c++) {
                    for (int b = 0; b < 32; b++) if (gives(f, l, c, b)) return 100000 * f + 10000 * l + 100 * c + b;
                }
            }
        }
        return NONE;
    }

    int guess(int sort, int what) {
        if (!in(sort, 0, 1) || !in(what, 0, 2)) return -2000000000;
        int[] best = null;
        int all = 0;
        for (int i = 0; i < w.sensors.size(); i++) if (w.sensors.get(i)[0] == sort) all |= 1 << i;
        for (int set = 1; set < 64; set++) {
            if ((set & all) != set) continue;
            int low = Integer.MIN_VALUE, high = Integer.MAX_VALUE;
            for (int i = 0; i < w.sensors.size(); i++) {
                if ((set >> i & 1) == 0) continue;
                low = Math.max(low, w.tells(i) - w.sensors.get(i)[3]);
                high = Math.min(high, w.tells(i) + w.sensors.get(i)[3]);
            }
            int n = Integer.bitCount(set);
            if (low <= high && (best == null || n > best[3])) best = new int[] {low, high, all ^ set, n};
        }
        return best == null ? -2100000000 : best[what];
    }

    int clock(int lane, int time, int rate) {
        if (!in(lane, 0, w.lanes - 1) || !in(time, -1000000, 1000000) || !in(rate, -1000, 1000)) return BAD;
        w.time[lane] = time;
        w.rate[lane] = rate;
        return 1;
    }

    long near(int n) {
        if (!in(n, 0, 100)) return BAD;
        List<Long> t = new ArrayList<>();
        for (int l = 0; l < w.lanes; l++) t.add(w.time[l]);
        for (int i = 0; i < n; i++) {
            for (int l = 0; l < w.lanes; l++) t.set(l, t.get(l) + w.rate[l]);
            long mid = middle(t);
            for (int l = 0; l < w.lanes; l++) t.set(l, t.get(l) + (mid - t.get(l)) / 2);
        }
        long most = 0;
        for (long a : t) for (long b : t) most = Math.max(most, a - b);
        return most;
    }

    int image(int i) {
        if (!in(i, 0, 1)) return BAD;
        kept[i] = w.copy();
        return 1;
    }

    int from(int i) {
        if (!in(i, 0, 1)) return BAD;
        if (kept[i] == null) return NO;
        w = kept[i].copy();
        return 1;
    }

    int count(int what) {
        if (!in(what, 0, 7)) return BAD;
        return new int[] {w.lanes, w.program.size(), w.slots.size(), w.sensors.size(), w.faults.size(),
            w.rules.length(), w.beside.size(), w.box.size()}[what];
    }

    long digest() {
        List<Integer> all = new ArrayList<>();
        for (int i = 0; i < 8; i++) all.add(count(i));
        for (int i = 0; i < 8; i++) all.add(now(i));
        for (int l = 0; l < w.lanes; l++) {
            for (int i = 0; i < 5; i++) all.add(lane(l, i));
            for (int c = 0; c < 12; c++) all.add(cell(l, c));
        }
        for (int i = 0; i < 8; i++) {
            all.add(voted(i, 0));
            all.add(voted(i, 1));
        }
        all.addAll(List.of(sensed(0), sensed(1), seal(0), seal(1), w.lot));
        long h = 311;
        for (int v : all) h = 31 * h + v;
        return h;
    }
}
