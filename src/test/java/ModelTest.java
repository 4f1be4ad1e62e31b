import java.util.ArrayList;
import java.util.Arrays;
import java.util.HashMap;
import java.util.List;
import java.util.Map;
import java.util.Random;

/**
 * Runs of calls made by a fixed seed, on the class and on a plain model of the
 * document that is written another way (copies of all states instead of going
 * through again, the library's floats, maps, recursion): the answers agree.
 */
public final class ModelTest {
    private static final int RUNS = 3000;
    private static final int CALLS = 512;

    private static final long LEAST = Long.MIN_VALUE;
    private static final long END = 1000000000000L;
    private static final long DEEP = 1000000000000000L;

    /** What a STAGE has. */
    private static final class St {
        int kind;
        long a;
        int b;
        long kept, beside, came, told, lost, cut;

        St like() {
            St o = new St();
            o.kind = kind; o.a = a; o.b = b;
            o.kept = kept; o.beside = beside; o.came = came; o.told = told; o.lost = lost; o.cut = cut;
            return o;
        }

        void plain(long x, long v, List<Integer> trace) {
            trace.add(10);
            came += x;
            told += v;
            kept = kept + x - v;
        }

        void leaky(long x, long v, List<Integer> trace) {
            trace.add(11);
            long l = kept * a / 256;
            lost += l;
            kept -= l;
            plain(x, v, trace);
        }

        void bounded(long x, long v, List<Integer> trace) {
            trace.add(12);
            plain(x, v, trace);
            if (kept > a) {
                cut += kept - a;
                kept = a;
            } else if (kept < -a) {
                cut += kept - (-a);
                kept = -a;
            }
        }

        void take(long x, long v, long u, List<Integer> trace) {
            if (kind == 0) {
                plain(x, v, trace);
            } else if (kind == 1) {
                leaky(x, v, trace);
            } else if (kind == 2) {
                bounded(x, v, trace);
            } else if (kind == 3) {
                trace.add(13);
                bounded(x - beside * b / 256, v, trace);
                beside += kept * b / 256;
            } else {
                trace.add(14);
                leaky(x + b * u, v, trace);
            }
        }
    }

    private static final class Lp {
        List<St> stages = new ArrayList<>();
        long seed;
        long level;
        int number;
        List<Integer> trace = new ArrayList<>();

        Lp like() {
            Lp o = new Lp();
            for (St s : stages) {
                o.stages.add(s.like());
            }
            o.seed = seed;
            return o;
        }

        Lp rest() {
            Lp o = like();
            for (St s : o.stages) {
                s.kept = 0;
                s.beside = 0;
            }
            return o;
        }

        /** The loop behind a STEP, or null if that is GREAT. */
        Lp behind(long u, long[] levels, int span) {
            Lp o = like();
            long lot = 0;
            if (span != 0) {
                o.seed = o.seed * 6364136223846793005L + 1442695040888963407L;
                lot = (o.seed >>> 33) % (2L * span + 1) - span;
            }
            long near = lot + (stages.isEmpty() ? u : stages.get(stages.size() - 1).kept);
            int best = levels.length - 1;
            for (int k = levels.length - 1; k >= 0; k--) {
                if (Math.abs(levels[k] - near) < Math.abs(levels[best] - near)) {
                    best = k;
                }
            }
            o.number = best;
            o.level = levels[best];
            long x = u;
            for (St s : o.stages) {
                s.take(x, o.level, u, o.trace);
                x = s.kept;
            }
            for (St s : o.stages) {
                if (Math.abs(s.kept) >= 1L << 50 || Math.abs(s.beside) >= 1L << 50) {
                    return null;
                }
            }
            return o;
        }

        List<Long> kept() {
            List<Long> row = new ArrayList<>();
            for (St s : stages) {
                row.add(s.kept);
            }
            return row;
        }

        List<Long> all(int span) {
            List<Long> row = kept();
            for (St s : stages) {
                row.add(s.beside);
            }
            if (span != 0) {
                row.add(seed);
            }
            return row;
        }
    }

    private static final class Model {
        long[][] reels = new long[6][];
        int[] forms = new int[6];
        Lp loop = new Lp();
        long[] levels = {-1, 1};
        int span = 0;
        List<Lp> ahead = new ArrayList<>();
        List<Long> made = new ArrayList<>();
        List<long[]> record = new ArrayList<>();
        List<Integer> trace = new ArrayList<>();
        int[] weights = new int[8];
        long[] held = new long[3];
        long[] leaving = {};
        long[] worst = {};
        int finding = 0, why = 0;

        int find(int k) {
            finding = k;
            return -10 - k;
        }

        static boolean in(long v, long low, long high) {
            return low <= v && v <= high;
        }

        static boolean sampleOk(long v) {
            return in(v, -END, END);
        }

        long reel(int r, int form, int n) {
            if (!in(r, 0, 5) || !in(form, 0, 5) || n > 60) return -2;
            if (n < 0) return find(5);
            reels[r] = new long[n];
            forms[r] = form;
            return n;
        }

        long lose(int r) {
            if (!in(r, 0, 5)) return -2;
            if (reels[r] == null) return find(1);
            int n = reels[r].length;
            reels[r] = null;
            return n;
        }

        int item(int r, int form, int i) {
            if (!in(r, 0, 5) || !in(form, 0, 5)) return -2;
            if (reels[r] == null) return find(1);
            if (forms[r] != form) return find(3);
            if (!in(i, 0, reels[r].length - 1)) return find(2);
            return 0;
        }

        long put(int r, int form, int i, long bits) {
            int no = item(r, form, i);
            if (no != 0) return no;
            long b = bits;
            if (form == 0) b = (byte) bits;
            if (form == 1) b = (short) bits;
            if (form == 2) b = (int) bits;
            if (form == 4) b = Float.isNaN(Float.intBitsToFloat((int) bits)) ? 0x7FC00000 : (int) bits;
            if (form == 5) b = Double.isNaN(Double.longBitsToDouble(bits)) ? 0x7FF8000000000000L : bits;
            reels[r][i] = b;
            return 1;
        }

        long get(int r, int form, int i) {
            return item(r, form, i) != 0 ? 0 : reels[r][i];
        }

        long copy(int r, int i, int q, int j, int n) {
            if (!in(r, 0, 5) || !in(q, 0, 5)) return -2;
            if (reels[r] == null || reels[q] == null) return find(1);
            if (forms[r] != forms[q]) return find(4);
            if (i < 0 || j < 0 || n < 0) return find(2);
            if ((long) i + n > reels[r].length || (long) j + n > reels[q].length) return find(2);
            long[] as = reels[r].clone();
            for (int k = 0; k < n; k++) reels[q][j + k] = as[i + k];
            return 1;
        }

        long sampleAt(int r, int i) {
            long b = reels[r][i];
            long n = b;
            if (forms[r] == 4) {
                float f = Float.intBitsToFloat((int) b);
                if (Float.isNaN(f)) return latest();
                n = (long) f;
            }
            if (forms[r] == 5) {
                double d = Double.longBitsToDouble(b);
                if (Double.isNaN(d)) return latest();
                n = (long) d;
            }
            return Math.max(-END, Math.min(END, n));
        }

        long latest() {
            return made.isEmpty() ? 0 : made.get(made.size() - 1);
        }

        long sample(int r, int i) {
            if (!in(r, 0, 5)) return 0;
            if (reels[r] == null) { find(1); return 0; }
            if (!in(i, 0, reels[r].length - 1)) { find(2); return 0; }
            return sampleAt(r, i);
        }

        long stage(int kind, long a, int b) {
            boolean ok = false;
            if (kind == 0) ok = a == 0 && b == 0;
            if (kind == 1) ok = in(a, 0, 256) && b == 0;
            if (kind == 2) ok = in(a, 1, DEEP) && b == 0;
            if (kind == 3) ok = in(a, 1, DEEP) && in(b, 0, 256);
            if (kind == 4) ok = in(a, 0, 256) && in(b, -100, 100);
            if (!ok) return -2;
            if (!record.isEmpty()) return -3;
            if (loop.stages.size() == 5) return -4;
            St s = new St();
            s.kind = kind; s.a = a; s.b = b;
            loop.stages.add(s);
            return loop.stages.size() - 1;
        }

        long levels(int n, long low, long gap) {
            if (!in(n, 2, 16) || !in(gap, 1, 1000000000L) || !sampleOk(low) || low + (n - 1) * gap > END) return -2;
            if (!record.isEmpty()) return -3;
            levels = new long[n];
            for (int k = 0; k < n; k++) levels[k] = low + gap * k;
            return 1;
        }

        long level(int k, long v) {
            if (!in(k, 0, levels.length - 1) || !sampleOk(v)) return -2;
            long[] other = levels.clone();
            other[k] = v;
            for (int m = 1; m < other.length; m++) if (other[m] <= other[m - 1]) return -2;
            if (!record.isEmpty()) return -3;
            levels = other;
            return 1;
        }

        long lot(int sp, long seed) {
            if (!in(sp, 0, 1000000000)) return -2;
            if (!record.isEmpty()) return -3;
            span = sp;
            loop.seed = seed;
            return 1;
        }

        long one(long u) {
            if (record.size() == 300) return -4;
            Lp next = loop.behind(u, levels, span);
            if (next == null) return -6;
            ahead.add(loop);
            made.add(u);
            long[] row = new long[2 + next.stages.size()];
            row[0] = u;
            row[1] = next.level;
            for (int s = 0; s < next.stages.size(); s++) row[2 + s] = next.stages.get(s).kept;
            record.add(row);
            trace = next.trace;
            loop = next;
            return next.number;
        }

        long step(long u) {
            return sampleOk(u) ? one(u) : -2;
        }

        long run(int r, int i, int n) {
            if (!in(r, 0, 5) || !in(n, 1, 300)) return -2;
            for (long k = i; k < (long) i + n; k++) {
                if (reels[r] == null) return find(1);
                if (!in(k, 0, reels[r].length - 1)) return find(2);
                long a = one(sampleAt(r, (int) k));
                if (a < 0) return a;
            }
            return record.size();
        }

        long undo(int n) {
            if (!in(n, 0, record.size())) return -2;
            for (int k = 0; k < n; k++) {
                int last = record.size() - 1;
                record.remove(last);
                made.remove(last);
                loop = ahead.remove(last);
            }
            return record.size();
        }

        long clear() {
            int n = record.size();
            long seed = n > 0 ? ahead.get(0).seed : loop.seed;
            record.clear();
            made.clear();
            ahead.clear();
            loop = new Lp();
            loop.seed = seed;
            return n;
        }

        long stageAt(int s, int what) {
            if (!in(s, 0, loop.stages.size() - 1) || !in(what, 0, 6)) return LEAST;
            St t = loop.stages.get(s);
            return new long[] {t.kept, t.beside, t.came, t.told, t.lost, t.cut, t.kind}[what];
        }

        long levelAt(int k) {
            return in(k, 0, levels.length - 1) ? levels[k] : LEAST;
        }

        boolean there(int t, int what) {
            return in(t, 0, record.size() - 1) && in(what, 0, 1 + loop.stages.size());
        }

        long record(int t, int what) {
            return there(t, what) ? record.get(t)[what] : LEAST;
        }

        long forge(int t, int what, long v) {
            if (!there(t, what) || what == 0 && !sampleOk(v)) return -2;
            record.get(t)[what] = v;
            return 1;
        }

        long check() {
            Lp at = record.isEmpty() ? loop : ahead.get(0);
            for (int t = 0; t < record.size(); t++) {
                long[] row = record.get(t);
                at = at.behind(row[0], levels, span);
                if (at == null || row[1] != at.level) return t;
                for (int s = 0; s < at.stages.size(); s++) if (row[2 + s] != at.stages.get(s).kept) return t;
            }
            return -1;
        }

        long read(int t) {
            long sum = 0;
            for (int j = 0; j < 8 && in(t, 0, record.size() - 1); j++) {
                sum += t - j >= 0 ? weights[j] * record.get(t - j)[1] : 0;
            }
            return sum;
        }

        long weight(int j, int w) {
            if (!in(j, 0, 7)) return Integer.MIN_VALUE;
            int was = weights[j];
            weights[j] = w;
            return was;
        }

        long sums(int m, int t) {
            if (!in(m, 1, 4) || !in(t, 0, record.size() - 1)) return 0;
            long[] row = new long[t + 1];
            for (int k = 0; k <= t; k++) row[k] = record.get(k)[1];
            for (int k = 0; k < m; k++) for (int at = 1; at <= t; at++) row[at] += row[at - 1];
            return row[t];
        }

        long trace(int k) {
            return in(k, 0, trace.size() - 1) ? trace.get(k) : -1;
        }

        long hold(long u, int most) {
            if (!sampleOk(u) || !in(most, 1, 400)) return -2;
            Map<List<Long>, Integer> seen = new HashMap<>();
            List<Long> told = new ArrayList<>();
            Lp at = loop;
            seen.put(at.all(span), 0);
            for (int t = 1; t <= most; t++) {
                at = at.behind(u, levels, span);
                if (at == null) return -6;
                told.add(at.level);
                Integer earlier = seen.put(at.all(span), t);
                if (earlier != null) {
                    long sum = 0;
                    for (int k = earlier; k < t; k++) sum += told.get(k);
                    held = new long[] {earlier, t - earlier, sum};
                    return earlier;
                }
            }
            return -5;
        }

        long held(int what) {
            return in(what, 0, 2) ? held[what] : LEAST;
        }

        long reach(long low, long high, long most) {
            if (!sampleOk(low) || !sampleOk(high) || low > high || high - low > 6 || !in(most, 1, DEEP)) return -2;
            if (!in(loop.stages.size(), 1, 2) || span != 0) return -7;
            for (St s : loop.stages) if (s.kind == 3) return -7;
            leaving = new long[0];
            List<Lp> stands = new ArrayList<>();
            List<long[]> rows = new ArrayList<>();
            Map<List<Long>, Integer> seen = new HashMap<>();
            stands.add(loop);
            rows.add(new long[0]);
            seen.put(loop.kept(), 0);
            for (int k = 0; k < stands.size(); k++) {
                for (long u = low; u <= high; u++) {
                    Lp at = stands.get(k).behind(u, levels, 0);
                    if (at == null) return -6;
                    long[] row = Arrays.copyOf(rows.get(k), rows.get(k).length + 1);
                    row[row.length - 1] = u;
                    for (long kept : at.kept()) {
                        if (kept > most || kept < -most) {
                            leaving = row;
                            return -100 - row.length;
                        }
                    }
                    if (seen.putIfAbsent(at.kept(), stands.size()) == null) {
                        stands.add(at);
                        rows.add(row);
                        if (stands.size() > 500) return -5;
                    }
                }
            }
            return stands.size();
        }

        long leaving(int i) {
            return in(i, 0, leaving.length - 1) ? leaving[i] : 0;
        }

        /** The best row from here on: its SAMPLES and, last, the size; null if some row is GREAT. */
        long[] best(Lp at, int n, long low, long high) {
            if (n == 0) return new long[] {Math.abs(at.stages.get(at.stages.size() - 1).kept)};
            long[] most = null;
            for (int k = 0; k < 2; k++) {
                long u = k == 0 ? low : high;
                Lp behind = at.behind(u, levels, span);
                long[] row = behind == null ? null : best(behind, n - 1, low, high);
                if (row == null) return null;
                if (most == null || row[n - 1] > most[n]) {
                    most = new long[n + 1];
                    most[0] = u;
                    System.arraycopy(row, 0, most, 1, n);
                }
            }
            return most;
        }

        long worst(int n, long low, long high) {
            why = 0;
            if (!in(n, 1, 12) || !sampleOk(low) || !sampleOk(high)) {
                why = -2;
            } else if (loop.stages.isEmpty() || span != 0) {
                why = -7;
            } else {
                long[] row = best(loop.rest(), n, low, high);
                if (row != null) {
                    worst = Arrays.copyOf(row, n);
                    return row[n];
                }
                why = -6;
            }
            return LEAST;
        }

        long worstAt(int i) {
            return in(i, 0, worst.length - 1) ? worst[i] : 0;
        }

        long count(int what) {
            return in(what, 0, 5)
                ? new int[] {loop.stages.size(), levels.length, record.size(), trace.size(), finding, why}[what] : -2;
        }

        long digest() {
            long h = 17;
            for (int s = 0; s < loop.stages.size(); s++) for (int w = 0; w <= 6; w++) h = 31 * h + stageAt(s, w);
            for (long v : levels) h = 31 * h + v;
            h = 31 * h + loop.seed;
            for (long[] row : record) h = 31 * (31 * h + row[0]) + row[1];
            return h;
        }
    }

    // ---- the calls

    private final Random random;
    private final OneBitLoop real = new OneBitLoop();
    private final Model model = new Model();
    /** how wild the SAMPLES of this run are */
    private final int wild;
    private String call = "";

    private ModelTest(long seed) {
        random = new Random(seed);
        wild = random.nextInt(4);
    }

    private int edgy(int low, int high) {
        int at = random.nextInt(14);
        if (at == 0) return low - 1;
        if (at == 1) return high + 1;
        if (at == 2) return low;
        if (at == 3) return high;
        if (at == 4 && random.nextInt(4) == 0) return random.nextBoolean() ? Integer.MIN_VALUE : Integer.MAX_VALUE;
        return low + random.nextInt(Math.max(1, high - low + 1));
    }

    private long wide(long low, long high) {
        switch (random.nextInt(16)) {
            case 0: return low - 1;
            case 1: return high + 1;
            case 2: return low;
            case 3: return high;
            case 4: return random.nextInt(3) == 0 ? random.nextLong() : low;
            default: return low + Math.floorMod(random.nextLong() >>> random.nextInt(60), high - low + 1);
        }
    }

    private long sample() {
        if (random.nextInt(60) == 0) return wide(-END, END);
        if (wild == 0) return random.nextInt(7) - 3;
        if (wild == 1) return random.nextInt(41) - 20;
        if (wild == 2) return (random.nextInt(2001) - 1000) * 1000003L;
        return random.nextBoolean() ? (random.nextBoolean() ? END : -END) : wide(-END, END);
    }

    private long bits() {
        switch (random.nextInt(6)) {
            case 0: return random.nextLong();
            case 1: return Float.floatToRawIntBits((random.nextInt(2001) - 1000) / 8f);
            case 2: return Double.doubleToRawLongBits((random.nextInt(2001) - 1000) / 8d * (1L << random.nextInt(40)));
            case 3: return Float.floatToRawIntBits((random.nextInt(2001) - 1000) * 1.0e9f * random.nextFloat());
            case 4: return random.nextBoolean() ? 0x7FC00001L + random.nextInt(9) : 0x7FF0000000000000L + random.nextInt(3);
            default: return random.nextInt(600) - 300;
        }
    }

    private boolean isSame(String told, long got, long want) {
        call = told + " answered " + got + ", due is " + want;
        return got == want;
    }

    private int t() {
        return edgy(0, Math.max(0, model.record.size() - 1));
    }

    private boolean reelCall() {
        int r = edgy(0, 5);
        int form = edgy(0, 5);
        if (r >= 0 && r <= 5 && model.reels[r] != null && random.nextInt(8) != 0) form = model.forms[r];
        int size = r >= 0 && r <= 5 && model.reels[r] != null ? model.reels[r].length : 2;
        int i = edgy(0, Math.max(0, size - 1));
        switch (random.nextInt(8)) {
            case 0: {
                int n = random.nextInt(3) == 0 ? edgy(0, 60) : random.nextInt(6);
                int f = edgy(0, 5);
                return isSame("reel(" + r + ", " + f + ", " + n + ")", real.reel(r, f, n), model.reel(r, f, n));
            }
            case 1:
                return random.nextInt(3) != 0 || isSame("lose(" + r + ")", real.lose(r), model.lose(r));
            case 2:
                return isSame("get(" + r + ", " + form + ", " + i + ")", real.get(r, form, i), model.get(r, form, i));
            case 3: {
                int q = random.nextInt(3) == 0 ? r : edgy(0, 5);
                int j = edgy(0, 3);
                int n = edgy(0, 4);
                return isSame("copy(" + r + ", " + i + ", " + q + ", " + j + ", " + n + ")",
                    real.copy(r, i, q, j, n), model.copy(r, i, q, j, n));
            }
            case 4:
                return isSame("sample(" + r + ", " + i + ")", real.sample(r, i), model.sample(r, i));
            default: {
                long b = bits();
                return isSame("put(" + r + ", " + form + ", " + i + ", " + b + ")",
                    real.put(r, form, i, b), model.put(r, form, i, b));
            }
        }
    }

    private boolean shapeCall() {
        switch (random.nextInt(7)) {
            case 0:
            case 1:
            case 2: {
                int kind = edgy(0, 4);
                boolean leak = kind == 1 || kind == 4;
                long a = leak ? wide(0, 256) : kind == 0 ? 0 : random.nextBoolean() ? wide(1, 30) : wide(1, DEEP);
                int b = kind == 3 ? edgy(0, 256) : kind == 4 ? edgy(-100, 100) : 0;
                if (random.nextInt(20) == 0) a = wide(0, 3);
                if (random.nextInt(20) == 0) b = edgy(0, 3);
                return isSame("stage(" + kind + ", " + a + ", " + b + ")", real.stage(kind, a, b), model.stage(kind, a, b));
            }
            case 3: {
                int n = edgy(2, 16);
                long gap = random.nextBoolean() ? 1 + random.nextInt(9) : wide(1, 1000000000L);
                long low = random.nextBoolean() ? -random.nextInt(20) : wide(-END, END);
                if (random.nextInt(4) == 0) low = END - (n - 1) * gap + random.nextInt(3) - 1;
                return isSame("levels(" + n + ", " + low + ", " + gap + ")", real.levels(n, low, gap), model.levels(n, low, gap));
            }
            case 4: {
                int k = edgy(0, model.levels.length - 1);
                long v = wide(-20, 20);
                if (k >= 0 && k < model.levels.length && random.nextBoolean()) v = model.levels[k] + random.nextInt(5) - 2;
                if (random.nextInt(4) == 0) v = wide(-END, END);
                return isSame("level(" + k + ", " + v + ")", real.level(k, v), model.level(k, v));
            }
            default: {
                int span = random.nextInt(3) != 0 ? 0 : random.nextBoolean() ? random.nextInt(9) : edgy(0, 1000000000);
                long seed = random.nextLong();
                return isSame("lot(" + span + ", " + seed + ")", real.lot(span, seed), model.lot(span, seed));
            }
        }
    }

    private boolean stepCall() {
        switch (random.nextInt(16)) {
            case 0:
            case 1:
            case 2:
            case 3: {
                int r = edgy(0, 5);
                int i = edgy(0, 3);
                int n = random.nextBoolean() ? 1 + random.nextInt(3) : edgy(1, 300);
                return isSame("run(" + r + ", " + i + ", " + n + ")", real.run(r, i, n), model.run(r, i, n));
            }
            case 4: {
                int n = random.nextInt(3) == 0 ? edgy(0, model.record.size()) : edgy(0, 2);
                return isSame("undo(" + n + ")", real.undo(n), model.undo(n));
            }
            case 5:
                return random.nextInt(3) != 0 || isSame("clear()", real.clear(), model.clear());
            default: {
                long u = sample();
                return isSame("step(" + u + ")", real.step(u), model.step(u));
            }
        }
    }

    private boolean askCall() {
        switch (random.nextInt(10)) {
            case 0: {
                int s = edgy(0, 4);
                int w = edgy(0, 6);
                return isSame("stageAt(" + s + ", " + w + ")", real.stageAt(s, w), model.stageAt(s, w));
            }
            case 1: {
                int k = edgy(0, model.levels.length - 1);
                return isSame("levelAt(" + k + ")", real.levelAt(k), model.levelAt(k));
            }
            case 2: {
                int t = t();
                int w = edgy(0, 1 + model.loop.stages.size());
                return isSame("record(" + t + ", " + w + ")", real.record(t, w), model.record(t, w));
            }
            case 3: {
                int t = t();
                int w = edgy(0, 1 + model.loop.stages.size());
                long v = random.nextBoolean() ? model.record(t, w) : wide(-END, END);
                return random.nextInt(4) == 0
                    || isSame("forge(" + t + ", " + w + ", " + v + ")", real.forge(t, w, v), model.forge(t, w, v));
            }
            case 4:
                return isSame("check()", real.check(), model.check());
            case 5: {
                int t = t();
                return isSame("read(" + t + ")", real.read(t), model.read(t));
            }
            case 6: {
                int j = edgy(0, 7);
                int w = random.nextBoolean() ? random.nextInt(9) - 4 : random.nextInt();
                return isSame("weight(" + j + ", " + w + ")", real.weight(j, w), model.weight(j, w));
            }
            case 7: {
                int m = edgy(1, 4);
                int t = t();
                return isSame("sums(" + m + ", " + t + ")", real.sums(m, t), model.sums(m, t));
            }
            case 8: {
                int k = edgy(0, Math.max(0, model.trace.size() - 1));
                return isSame("trace(" + k + ")", real.trace(k), model.trace(k));
            }
            default: {
                int w = edgy(0, 5);
                return isSame("count(" + w + ")", real.count(w), model.count(w));
            }
        }
    }

    private boolean comingCall() {
        switch (random.nextInt(7)) {
            case 0: {
                long u = sample();
                int most = random.nextBoolean() ? 400 : edgy(1, 400);
                return isSame("hold(" + u + ", " + most + ")", real.hold(u, most), model.hold(u, most));
            }
            case 1: {
                int w = edgy(0, 2);
                return isSame("held(" + w + ")", real.held(w), model.held(w));
            }
            case 2: {
                long low = sample();
                long high = low + edgy(0, 6);
                long most = random.nextBoolean() ? 1 + random.nextInt(40) : wide(1, DEEP);
                return isSame("reach(" + low + ", " + high + ", " + most + ")",
                    real.reach(low, high, most), model.reach(low, high, most));
            }
            case 3: {
                int i = edgy(0, Math.max(0, model.leaving.length - 1));
                return isSame("leaving(" + i + ")", real.leaving(i), model.leaving(i));
            }
            case 4: {
                int n = random.nextInt(4) == 0 ? edgy(1, 12) : edgy(1, 5);
                long low = sample();
                long high = sample();
                return isSame("worst(" + n + ", " + low + ", " + high + ")",
                    real.worst(n, low, high), model.worst(n, low, high));
            }
            case 5: {
                int i = edgy(0, Math.max(0, model.worst.length - 1));
                return isSame("worstAt(" + i + ")", real.worstAt(i), model.worstAt(i));
            }
            default:
                return isSame("digest()", real.digest(), model.digest());
        }
    }

    private boolean oneCall(int k) {
        int at = random.nextInt(20);
        if (k < 14 && at < 14) return random.nextBoolean() ? shapeCall() : reelCall();
        if (at < 4) return reelCall();
        if (at < 6) return shapeCall();
        if (at < 12) return stepCall();
        if (at < 16) return askCall();
        return comingCall();
    }

    public static void main(String[] args) {
        int wrong = 0;
        for (int run = 0; run < RUNS && wrong < 10; run++) {
            ModelTest test = new ModelTest(run);
            for (int k = 0; k < CALLS; k++) {
                if (!test.oneCall(k)) {
                    wrong++;
                    System.out.println("run " + run + ", call " + k + ": " + test.call);
                    break;
                }
            }
        }
        System.out.println(wrong == 0 ? "the class and the model agree" : wrong + " runs do not agree");
        if (wrong != 0) {
            System.exit(1);
        }
    }
}
