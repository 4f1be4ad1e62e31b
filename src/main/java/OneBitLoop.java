import java.util.Arrays;

/**
 * A bench that tells rows of samples by few levels, so that what is lost is
 * pushed away. The words in capitals are those of the document.
 */
public final class OneBitLoop {
    public static final int NONE = -1, BAD = -2, STATE = -3, FULL = -4, SPENT = -5, GREAT = -6, NOT = -7;

    private static final long LEAST_LONG = 0x8000000000000000L;
    private static final int LEAST_INT = 0x80000000;

    private static final int FINDINGS = -10;
    private static final int LOST_REEL = 1, NO_ITEM = 2, OTHER_FORM = 3, UNLIKE_FORMS = 4, BELOW_ZERO = 5;

    private static final int REELS = 6, ITEMS = 60, FORMS = 6;
    private static final int BYTES = 0, SHORTS = 1, INTS = 2, LONGS = 3, FLOATS = 4;

    private static final int STAGES = 5;
    private static final int PLAIN = 0, LEAKY = 1, BOUNDED = 2, TURNING = 3, FED = 4;
    private static final int TRACE_OF_PLAIN = 10;
    /** TURNING and FED write three numbers each: no KIND writes more. */
    private static final int TRACE_MOST = 3 * STAGES;

    private static final int KEPT = 0, BESIDE = 1, CAME = 2, TOLD = 3, LOST = 4, CUT = 5, NUMBERS = 6;
    private static final int WHAT_KIND = 6;

    private static final int LEVELS_LEAST = 2, LEVELS_MOST = 16;
    private static final long GAP_MOST = 1000000000L;
    private static final int SPAN_MOST = 1000000000;
    private static final long SAMPLE_END = 1000000000000L;
    private static final long BOUND_MOST = 1000000000000000L;
    private static final long WHOLE = 256L;
    private static final int FACTOR_MOST = 100;
    private static final long GREAT_FROM = 1L << 50;

    private static final int STEPS = 300;
    /** where a STEP of THE RECORD has its numbers: as record() asks for them */
    private static final int WHAT_SAMPLE = 0, WHAT_LEVEL = 1, WHAT_KEPT = 2, STEP_WIDTH = WHAT_KEPT + STAGES;
    private static final int WEIGHTS = 8;
    private static final int SUMS_MOST = 4;
    private static final int HOLD_MOST = 400;
    private static final int STANDS = 500;
    /** what is seen of a twin: KEPT and BESIDE of each STAGE, and the SEED */
    private static final int SEEN_WIDTH = 2 * STAGES + 1;
    /** a power of 2, twice what is ever seen, so that a free slot is near */
    private static final int SLOTS = 1024;
    private static final int RANGE_MOST = 6;
    private static final int LEAVES = -100;
    private static final int ROW_MOST = 12;

    private final Reel[] reels;
    private final Shape shape;
    private final Log log;
    private final Holding holding;
    private final Reaching reaching;
    private final Worst worstRow;
    private final int[] weights;
    /** THE LOOP as it is; its own trace is THE TRACE. */
    private Twin now;
    /** A STEP is made here first, so that one that is GREAT leaves all as it was. */
    private Twin next;
    private int finding;

    public OneBitLoop() {
        reels = new Reel[REELS];
        for (int r = 0; r < REELS; r++) {
            reels[r] = new Reel();
        }
        shape = new Shape();
        log = new Log();
        Seen seen = new Seen();
        holding = new Holding(shape, seen);
        reaching = new Reaching(shape, seen);
        worstRow = new Worst(shape);
        weights = new int[WEIGHTS];
        now = new Twin(shape);
        next = new Twin(shape);
        finding = 0;
    }

    // ---- reels

    public int reel(int r, int form, int n) {
        if (!isReel(r) || !isForm(form) || n > ITEMS) {
            return BAD;
        }
        if (n < 0) {
            return found(BELOW_ZERO);
        }
        reels[r].renew(form, n);
        return n;
    }

    public int lose(int r) {
        if (!isReel(r)) {
            return BAD;
        }
        if (reels[r].lost) {
            return found(LOST_REEL);
        }
        reels[r].lost = true;
        return reels[r].size;
    }

    public int put(int r, int form, int i, long bits) {
        int refusal = refuseItem(r, form, i);
        if (refusal != 0) {
            return refusal;
        }
        reels[r].items[i] = bitsAsHeld(form, bits);
        return 1;
    }

    public long get(int r, int form, int i) {
        if (refuseItem(r, form, i) != 0) {
            return 0L;
        }
        return reels[r].items[i];
    }

    public int copy(int r, int i, int q, int j, int n) {
        if (!isReel(r) || !isReel(q)) {
            return BAD;
        }
        Reel from = reels[r];
        Reel to = reels[q];
        if (from.lost || to.lost) {
            return found(LOST_REEL);
        }
        if (from.form != to.form) {
            return found(UNLIKE_FORMS);
        }
        if (!from.hasRow(i, n) || !to.hasRow(j, n)) {
            return found(NO_ITEM);
        }
        System.arraycopy(from.items, i, to.items, j, n);
        return 1;
    }

    public long sample(int r, int i) {
        if (!isReel(r)) {
            return 0L;
        }
        if (refuseSample(r, i) != 0) {
            return 0L;
        }
        return reels[r].sampleOf(i, log.latestMade());
    }

    // ---- the loop

    public int stage(int kind, long a, int b) {
        if (!isStageAsTold(kind, a, b)) {
            return BAD;
        }
        if (log.steps > 0) {
            return STATE;
        }
        if (shape.stages >= STAGES) {
            return FULL;
        }
        return shape.addStage(kind, a, b);
    }

    public int levels(int n, long low, long gap) {
        if (n < LEVELS_LEAST || n > LEVELS_MOST || gap < 1L || gap > GAP_MOST) {
            return BAD;
        }
        if (!isSample(low) || !isSample(low + (n - 1) * gap)) {
            return BAD;
        }
        if (log.steps > 0) {
            return STATE;
        }
        shape.layLevels(n, low, gap);
        return 1;
    }

    public int level(int k, long v) {
        if (!shape.hasLevel(k) || !isSample(v) || !shape.wouldRise(k, v)) {
            return BAD;
        }
        if (log.steps > 0) {
            return STATE;
        }
        shape.levels[k] = v;
        return 1;
    }

    public int lot(int span, long seed) {
        if (span < 0 || span > SPAN_MOST) {
            return BAD;
        }
        if (log.steps > 0) {
            return STATE;
        }
        shape.span = span;
        shape.firstSeed = seed;
        now.seed = seed;
        return 1;
    }

    public int step(long sample) {
        if (!isSample(sample)) {
            return BAD;
        }
        return makeOne(sample);
    }

    public int run(int r, int i, int n) {
        if (!isReel(r) || n < 1 || n > STEPS) {
            return BAD;
        }
        for (int k = 0; k < n; k++) {
            // a long, for i may be the greatest int
            long item = (long) i + k;
            int answer = refuseSample(r, item);
            if (answer == 0) {
                answer = makeOne(reels[r].sampleOf((int) item, log.latestMade()));
            }
            if (answer < 0) {
                return answer;
            }
        }
        return log.steps;
    }

    public int undo(int n) {
        if (n < 0 || n > log.steps) {
            return BAD;
        }
        if (n > 0) {
            log.steps -= n;
            next.beginAgain();
            for (int t = 0; t < log.steps; t++) {
                // what was forged does not count here, and none of these was GREAT
                next.makeStep(log.made[t]);
            }
            now.becomeLike(next);
        }
        return log.steps;
    }

    public int clear() {
        int had = log.steps;
        log.steps = 0;
        shape.stages = 0;
        now.beginAgain();
        return had;
    }

    // ---- asks

    public long stageAt(int s, int what) {
        if (!shape.hasStage(s) || what < 0 || what > WHAT_KIND) {
            return LEAST_LONG;
        }
        return what == WHAT_KIND ? shape.kinds[s] : now.numbers[s * NUMBERS + what];
    }

    public long levelAt(int k) {
        return shape.hasLevel(k) ? shape.levels[k] : LEAST_LONG;
    }

    public long record(int t, int what) {
        if (!isRecorded(t, what)) {
            return LEAST_LONG;
        }
        return log.numbers[t * STEP_WIDTH + what];
    }

    public int forge(int t, int what, long v) {
        if (!isRecorded(t, what) || (what == WHAT_SAMPLE && !isSample(v))) {
            return BAD;
        }
        log.numbers[t * STEP_WIDTH + what] = v;
        return 1;
    }

    public int check() {
        next.beginAgain();
        for (int t = 0; t < log.steps; t++) {
            if (!next.makeStep(log.numbers[t * STEP_WIDTH + WHAT_SAMPLE]) || !log.agrees(t, next)) {
                return t;
            }
        }
        return NONE;
    }

    public long read(int t) {
        if (!log.hasStep(t)) {
            return 0L;
        }
        long sum = 0L;
        for (int j = 0; j < WEIGHTS && j <= t; j++) {
            sum += weights[j] * log.levelOf(t - j);
        }
        return sum;
    }

    public int weight(int j, int w) {
        if (j < 0 || j >= WEIGHTS) {
            return LEAST_INT;
        }
        int was = weights[j];
        weights[j] = w;
        return was;
    }

    public long sums(int m, int t) {
        if (m < 1 || m > SUMS_MOST || !log.hasStep(t)) {
            return 0L;
        }
        return log.runningSum(m, t);
    }

    public int trace(int k) {
        return k >= 0 && k < now.traced ? now.marks[k] : NONE;
    }

    // ---- what can come

    public int hold(long sample, int most) {
        if (!isSample(sample) || most < 1 || most > HOLD_MOST) {
            return BAD;
        }
        next.becomeLike(now);
        return holding.goRound(next, sample, most);
    }

    public long held(int what) {
        switch (what) {
            case 0:
                return holding.comes;
            case 1:
                return holding.round;
            case 2:
                return holding.sum;
            default:
                return LEAST_LONG;
        }
    }

    public int reach(long low, long high, long most) {
        if (!isSample(low) || !isSample(high) || high < low || high - low > RANGE_MOST) {
            return BAD;
        }
        if (most < 1L || most > BOUND_MOST) {
            return BAD;
        }
        if (!isReachable()) {
            return NOT;
        }
        next.becomeLike(now);
        return reaching.findStands(next, low, high, most);
    }

    public long leaving(int i) {
        return i >= 0 && i < reaching.rowSize ? reaching.row[i] : 0L;
    }

    public long worst(int n, long low, long high) {
        int refusal = 0;
        if (n < 1 || n > ROW_MOST || !isSample(low) || !isSample(high)) {
            refusal = BAD;
        } else if (shape.stages == 0 || shape.span != 0) {
            refusal = NOT;
        } else if (!worstRow.goThroughAll(n, low, high)) {
            refusal = GREAT;
        }
        worstRow.refusal = refusal;
        return refusal == 0 ? worstRow.size : LEAST_LONG;
    }

    public long worstAt(int i) {
        return worstRow.sampleOf(i);
    }

    public int count(int what) {
        switch (what) {
            case 0:
                return shape.stages;
            case 1:
                return shape.levelCount;
            case 2:
                return log.steps;
            case 3:
                return now.traced;
            case 4:
                return finding;
            case 5:
                return worstRow.refusal;
            default:
                return BAD;
        }
    }

    public long digest() {
        long h = 17L;
        for (int s = 0; s < shape.stages; s++) {
            for (int what = 0; what < NUMBERS; what++) {
                h = 31L * h + now.numbers[s * NUMBERS + what];
            }
            h = 31L * h + shape.kinds[s];
        }
        for (int k = 0; k < shape.levelCount; k++) {
            h = 31L * h + shape.levels[k];
        }
        h = 31L * h + now.seed;
        for (int t = 0; t < log.steps; t++) {
            h = 31L * h + log.numbers[t * STEP_WIDTH + WHAT_SAMPLE];
            h = 31L * h + log.levelOf(t);
        }
        return h;
    }

    // ---- what the calls share

    private int found(int number) {
        finding = number;
        return FINDINGS - number;
    }

    /** 0, or why item i of REEL r can't be treated as of a FORM. */
    private int refuseItem(int r, int form, int i) {
        if (!isReel(r) || !isForm(form)) {
            return BAD;
        }
        if (reels[r].lost) {
            return found(LOST_REEL);
        }
        if (reels[r].form != form) {
            return found(OTHER_FORM);
        }
        return reels[r].hasItem(i) ? 0 : found(NO_ITEM);
    }

    /** 0, or why there is no SAMPLE i of REEL r. */
    private int refuseSample(int r, long i) {
        if (reels[r].lost) {
            return found(LOST_REEL);
        }
        return reels[r].hasItem(i) ? 0 : found(NO_ITEM);
    }

    /** A STEP of step(), run(): the number of its LEVEL, FULL or GREAT. */
    private int makeOne(long u) {
        if (log.steps >= STEPS) {
            return FULL;
        }
        next.becomeLike(now);
        if (!next.makeStep(u)) {
            return GREAT;
        }
        Twin before = now;
        now = next;
        next = before;
        log.write(u, now);
        return now.told;
    }

    private boolean isRecorded(int t, int what) {
        return log.hasStep(t) && what >= 0 && what < WHAT_KEPT + shape.stages;
    }

    private boolean isReachable() {
        if (shape.stages < 1 || shape.stages > 2 || shape.span != 0) {
            return false;
        }
        for (int s = 0; s < shape.stages; s++) {
            if (shape.kinds[s] == TURNING) {
                return false;
            }
        }
        return true;
    }

    private static boolean isReel(int r) {
        return r >= 0 && r < REELS;
    }

    private static boolean isForm(int form) {
        return form >= 0 && form < FORMS;
    }

    private static boolean isSample(long u) {
        return u >= -SAMPLE_END && u <= SAMPLE_END;
    }

    private static boolean isStageAsTold(int kind, long a, int b) {
        boolean leak = a >= 0L && a <= WHOLE;
        boolean bound = a >= 1L && a <= BOUND_MOST;
        switch (kind) {
            case PLAIN:
                return a == 0L && b == 0;
            case LEAKY:
                return leak && b == 0;
            case BOUNDED:
                return bound && b == 0;
            case TURNING:
                return bound && b >= 0 && b <= WHOLE;
            case FED:
                return leak && b >= -FACTOR_MOST && b <= FACTOR_MOST;
            default:
                return false;
        }
    }

    // ---- items, by their bits: the language leaves no other way to floats

    /** BITS as an item of a FORM has them: with a sign, and one sort of no number. */
    private static long bitsAsHeld(int form, long bits) {
        switch (form) {
            case BYTES:
                return (byte) bits;
            case SHORTS:
                return (short) bits;
            case INTS:
                return (int) bits;
            case LONGS:
                return bits;
            case FLOATS:
                return isNoNumber(form, bits) ? 0x7FC00000L : (int) bits;
            default:
                return isNoNumber(form, bits) ? 0x7FF8000000000000L : bits;
        }
    }

    private static boolean isNoNumber(int form, long bits) {
        if (form < FLOATS) {
            return false;
        }
        if (form == FLOATS) {
            return (bits & 0x7FFFFFFFL) > 0x7F800000L;
        }
        return (bits & 0x7FFFFFFFFFFFFFFFL) > 0x7FF0000000000000L;
    }

    /** The item as a long, cut to a SAMPLE; it is a number. */
    private static long cutToSample(int form, long bits) {
        if (form < FLOATS) {
            return Math.max(-SAMPLE_END, Math.min(SAMPLE_END, bits));
        }
        long size;
        if (form == FLOATS) {
            size = sizeOfParts((bits >>> 23) & 0xFFL, bits & 0x7FFFFFL, 23, 127);
        } else {
            size = sizeOfParts((bits >>> 52) & 0x7FFL, bits & 0xFFFFFFFFFFFFFL, 52, 1023);
        }
        return bits < 0L ? -size : size;
    }

    /** The whole part of 1.fraction times 2 to the (exponent less bias), at most SAMPLE_END. */
    private static long sizeOfParts(long exponent, long fraction, int places, int bias) {
        int power = (int) exponent - bias;
        if (power < 0) {
            return 0L;
        }
        // 2 to the 40 is above SAMPLE_END
        if (power >= 40) {
            return SAMPLE_END;
        }
        long digits = fraction | (1L << places);
        long size = power >= places ? digits << (power - places) : digits >>> (places - power);
        return Math.min(SAMPLE_END, size);
    }

    private static final class Reel {
        final long[] items = new long[ITEMS];
        boolean lost = true;
        int form = 0;
        int size = 0;

        void renew(int newForm, int n) {
            lost = false;
            form = newForm;
            size = n;
            Arrays.fill(items, 0L);
        }

        boolean hasItem(long i) {
            return i >= 0L && i < size;
        }

        boolean hasRow(int i, int n) {
            return i >= 0 && n >= 0 && i <= size && n <= size - i;
        }

        long sampleOf(int i, long withoutNumber) {
            return isNoNumber(form, items[i]) ? withoutNumber : cutToSample(form, items[i]);
        }
    }

    /** What of THE LOOP stays while there are STEPS. */
    private static final class Shape {
        final int[] kinds = new int[STAGES];
        /** leak or bound */
        final long[] firsts = new long[STAGES];
        /** turn or factor */
        final int[] seconds = new int[STAGES];
        final long[] levels = new long[LEVELS_MOST];
        int stages = 0;
        int levelCount = LEVELS_LEAST;
        int span = 0;
        long firstSeed = 0L;

        Shape() {
            levels[0] = -1L;
            levels[1] = 1L;
        }

        int addStage(int kind, long a, int b) {
            kinds[stages] = kind;
            firsts[stages] = a;
            seconds[stages] = b;
            stages++;
            return stages - 1;
        }

        void layLevels(int n, long low, long gap) {
            levelCount = n;
            for (int k = 0; k < n; k++) {
                levels[k] = low + k * gap;
            }
        }

        boolean hasStage(int s) {
            return s >= 0 && s < stages;
        }

        boolean hasLevel(int k) {
            return k >= 0 && k < levelCount;
        }

        boolean wouldRise(int k, long v) {
            return (k == 0 || levels[k - 1] < v) && (k == levelCount - 1 || v < levels[k + 1]);
        }

        /** The number of the LEVEL nearest to x, of two as near the higher one. */
        int nearestTo(long x) {
            int k = 0;
            while (k < levelCount - 1 && Math.abs(levels[k + 1] - x) <= Math.abs(levels[k] - x)) {
                k++;
            }
            return k;
        }
    }

    /** What STEPS change: THE LOOP itself, and those on which STEPS are tried. */
    private static final class Twin {
        final Shape shape;
        final long[] numbers = new long[STAGES * NUMBERS];
        final int[] marks = new int[TRACE_MOST];
        int traced = 0;
        long seed = 0L;
        /** the number of the LEVEL of the latest STEP */
        int told = 0;

        Twin(Shape ofLoop) {
            shape = ofLoop;
        }

        /** As ahead of the first STEP; the trace stays. */
        void beginAgain() {
            Arrays.fill(numbers, 0L);
            seed = shape.firstSeed;
        }

        /** All but the trace. */
        void becomeLike(Twin other) {
            System.arraycopy(other.numbers, 0, numbers, 0, numbers.length);
            seed = other.seed;
        }

        /** False if the STEP is GREAT: then what stands here is of no use. */
        boolean makeStep(long u) {
            traced = 0;
            long lot = drawLot();
            long asked = shape.stages == 0 ? u : numbers[(shape.stages - 1) * NUMBERS + KEPT];
            told = shape.nearestTo(asked + lot);
            long v = shape.levels[told];
            long x = u;
            for (int s = 0; s < shape.stages; s++) {
                takeStage(s, x, v, u);
                x = numbers[s * NUMBERS + KEPT];
                if (isGreat(x) || isGreat(numbers[s * NUMBERS + BESIDE])) {
                    return false;
                }
            }
            return true;
        }

        private long drawLot() {
            if (shape.span <= 0) {
                return 0L;
            }
            seed = 6364136223846793005L * seed + 1442695040888963407L;
            return (seed >>> 33) % (2L * shape.span + 1L) - shape.span;
        }

        /**
         * A KIND that goes on as another one does writes its own number ahead of that one's:
         * TURNING goes on as BOUNDED, FED as LEAKY, and all of them as PLAIN.
         */
        private void takeStage(int s, long x, long v, long u) {
            int kind = shape.kinds[s];
            boolean leaks = kind == LEAKY || kind == FED;
            boolean isCut = kind == BOUNDED || kind == TURNING;
            long taken = x;
            if (kind == TURNING) {
                mark(TURNING);
                taken = x - turnedBy(s, BESIDE);
            }
            if (kind == FED) {
                mark(FED);
                taken = x + shape.seconds[s] * u;
            }
            if (leaks) {
                mark(LEAKY);
                leak(s);
            }
            if (isCut) {
                mark(BOUNDED);
            }
            mark(PLAIN);
            addUp(s, taken, v);
            if (isCut) {
                cutToBound(s);
            }
            if (kind == TURNING) {
                numbers[s * NUMBERS + BESIDE] += turnedBy(s, KEPT);
            }
        }

        private void addUp(int s, long x, long v) {
            int at = s * NUMBERS;
            numbers[at + CAME] += x;
            numbers[at + TOLD] += v;
            numbers[at + KEPT] += x - v;
        }

        private void leak(int s) {
            int at = s * NUMBERS;
            long leaked = numbers[at + KEPT] * shape.firsts[s] / WHOLE;
            numbers[at + LOST] += leaked;
            numbers[at + KEPT] -= leaked;
        }

        private void cutToBound(int s) {
            int at = s * NUMBERS;
            long bound = shape.firsts[s];
            long was = numbers[at + KEPT];
            long within = Math.max(-bound, Math.min(bound, was));
            numbers[at + KEPT] = within;
            numbers[at + CUT] += was - within;
        }

        private long turnedBy(int s, int what) {
            return numbers[s * NUMBERS + what] * shape.seconds[s] / WHOLE;
        }

        private void mark(int kind) {
            if (traced < TRACE_MOST) {
                marks[traced] = TRACE_OF_PLAIN + kind;
                traced++;
            }
        }

        private static boolean isGreat(long number) {
            return number >= GREAT_FROM || number <= -GREAT_FROM;
        }
    }

    /** THE RECORD, and the SAMPLES with which its STEPS were made. */
    private static final class Log {
        final long[] numbers = new long[STEPS * STEP_WIDTH];
        final long[] made = new long[STEPS];
        int steps = 0;

        boolean hasStep(int t) {
            return t >= 0 && t < steps;
        }

        long levelOf(int t) {
            return numbers[t * STEP_WIDTH + WHAT_LEVEL];
        }

        long latestMade() {
            return steps > 0 ? made[steps - 1] : 0L;
        }

        void write(long u, Twin behind) {
            made[steps] = u;
            int at = steps * STEP_WIDTH;
            numbers[at + WHAT_SAMPLE] = u;
            numbers[at + WHAT_LEVEL] = behind.shape.levels[behind.told];
            for (int s = 0; s < behind.shape.stages; s++) {
                numbers[at + WHAT_KEPT + s] = behind.numbers[s * NUMBERS + KEPT];
            }
            steps++;
        }

        boolean agrees(int t, Twin behind) {
            if (levelOf(t) != behind.shape.levels[behind.told]) {
                return false;
            }
            for (int s = 0; s < behind.shape.stages; s++) {
                if (numbers[t * STEP_WIDTH + WHAT_KEPT + s] != behind.numbers[s * NUMBERS + KEPT]) {
                    return false;
                }
            }
            return true;
        }

        /** Running sums, one of the other, m times (1 to 4), of LEVELS up to STEP t. */
        long runningSum(int m, int t) {
            long first = 0L;
            long second = 0L;
            long third = 0L;
            long fourth = 0L;
            for (int at = 0; at <= t; at++) {
                first += levelOf(at);
                second += first;
                third += second;
                fourth += third;
            }
            switch (m) {
                case 1:
                    return first;
                case 2:
                    return second;
                case 3:
                    return third;
                default:
                    return fourth;
            }
        }
    }

    /** What twins have been, each once, in the order in which they came, found again by a hash. */
    private static final class Seen {
        final long[] rows = new long[HOLD_MOST * SEEN_WIDTH];
        /** 0, or 1 + the number of a row */
        final int[] slots = new int[SLOTS];
        /** the twin that was looked for latest, and the slot where it would come */
        final long[] asked = new long[SEEN_WIDTH];
        int freeSlot = 0;
        int width = 0;
        int size = 0;

        void empty() {
            Arrays.fill(slots, 0);
            size = 0;
        }

        /** The row in which the twin is as now, or NONE. */
        int find(Twin twin) {
            ask(twin);
            int slot = hashOfAsked();
            for (int tries = 0; tries < SLOTS && slots[slot] != 0; tries++) {
                if (isAsked(slots[slot] - 1)) {
                    return slots[slot] - 1;
                }
                slot = (slot + 1) & (SLOTS - 1);
            }
            freeSlot = slot;
            return NONE;
        }

        /** The twin that find() did not find comes behind the others. */
        void addAsked() {
            if ((size + 1) * width <= rows.length) {
                System.arraycopy(asked, 0, rows, size * width, width);
                size++;
                slots[freeSlot] = size;
            }
        }

        /** A twin has KEPT and BESIDE of a row. */
        void restore(int row, Twin twin) {
            for (int s = 0; s < twin.shape.stages; s++) {
                twin.numbers[s * NUMBERS + KEPT] = rows[row * width + 2 * s];
                twin.numbers[s * NUMBERS + BESIDE] = rows[row * width + 2 * s + 1];
            }
        }

        private void ask(Twin twin) {
            int stages = twin.shape.stages;
            for (int s = 0; s < stages; s++) {
                asked[2 * s] = twin.numbers[s * NUMBERS + KEPT];
                asked[2 * s + 1] = twin.numbers[s * NUMBERS + BESIDE];
            }
            width = 2 * stages;
            if (twin.shape.span != 0) {
                asked[width] = twin.seed;
                width++;
            }
        }

        private int hashOfAsked() {
            long h = 0L;
            for (int k = 0; k < width; k++) {
                h = (h ^ asked[k]) * 0x9E3779B97F4A7C15L;
                h ^= h >>> 32;
            }
            return (int) (h & (SLOTS - 1));
        }

        private boolean isAsked(int row) {
            for (int k = 0; k < width; k++) {
                if (rows[row * width + k] != asked[k]) {
                    return false;
                }
            }
            return true;
        }
    }

    /** HOLD. */
    private static final class Holding {
        final Shape shape;
        final Seen seen;
        /** the sum of the first t LEVELS */
        final long[] sumAhead = new long[HOLD_MOST];
        int comes = 0;
        int round = 0;
        long sum = 0L;

        Holding(Shape ofLoop, Seen shared) {
            shape = ofLoop;
            seen = shared;
        }

        int goRound(Twin twin, long u, int most) {
            seen.empty();
            seen.find(twin);
            long total = 0L;
            for (int t = 0; t < most && t < HOLD_MOST; t++) {
                seen.addAsked();
                sumAhead[t] = total;
                if (!twin.makeStep(u)) {
                    return GREAT;
                }
                total += shape.levels[twin.told];
                int earlier = seen.find(twin);
                if (earlier >= 0) {
                    comes = earlier;
                    round = t + 1 - earlier;
                    sum = total - sumAhead[earlier];
                    return comes;
                }
            }
            return SPENT;
        }
    }

    /** REACH. */
    private static final class Reaching {
        final Shape shape;
        final Seen seen;
        /** of each STAND the one ahead of it, and the SAMPLE that led from there */
        final int[] ahead = new int[STANDS];
        final long[] by = new long[STANDS];
        final long[] row = new long[STANDS];
        int rowSize = 0;

        Reaching(Shape ofLoop, Seen shared) {
            shape = ofLoop;
            seen = shared;
        }

        int findStands(Twin twin, long low, long high, long most) {
            rowSize = 0;
            seen.empty();
            seen.find(twin);
            seen.addAsked();
            for (int stand = 0; stand < STANDS && stand < seen.size; stand++) {
                for (long u = low; u <= high; u++) {
                    int refusal = tryFrom(stand, twin, u, most);
                    if (refusal != 0) {
                        return refusal;
                    }
                }
            }
            return seen.size;
        }

        /** 0, or what ends the search. */
        private int tryFrom(int stand, Twin twin, long u, long most) {
            seen.restore(stand, twin);
            if (!twin.makeStep(u)) {
                return GREAT;
            }
            if (isBeyond(twin, most)) {
                tellRow(stand, u);
                return LEAVES - rowSize;
            }
            if (seen.find(twin) >= 0) {
                return 0;
            }
            if (seen.size >= STANDS) {
                return SPENT;
            }
            ahead[seen.size] = stand;
            by[seen.size] = u;
            seen.addAsked();
            return 0;
        }

        private boolean isBeyond(Twin twin, long most) {
            for (int s = 0; s < shape.stages; s++) {
                long kept = twin.numbers[s * NUMBERS + KEPT];
                if (kept > most || kept < -most) {
                    return true;
                }
            }
            return false;
        }

        /** The SAMPLES that led to a STAND from the first one, and u behind them. */
        private void tellRow(int stand, long u) {
            int length = 1;
            // a STAND stands behind the one ahead of it, so that these numbers fall to 0
            for (int at = stand; at > 0 && length < STANDS; at = ahead[at]) {
                length++;
            }
            rowSize = length;
            row[length - 1] = u;
            int place = length - 2;
            for (int at = stand; at > 0 && place >= 0; at = ahead[at]) {
                row[place] = by[at];
                place--;
            }
        }
    }

    /** The worst of all rows. */
    private static final class Worst {
        final Shape shape;
        /** twin d is behind d SAMPLES of the row that is tried */
        final Twin[] twins = new Twin[ROW_MOST + 1];
        int refusal = 0;
        long size = 0L;
        private int length = 0;
        private int rowNumber = 0;
        private long zero = 0L;
        private long one = 0L;

        Worst(Shape ofLoop) {
            shape = ofLoop;
            for (int d = 0; d <= ROW_MOST; d++) {
                twins[d] = new Twin(ofLoop);
            }
        }

        /** False if some row meets what is GREAT: then the latest that was told stays. */
        boolean goThroughAll(int n, long low, long high) {
            int rows = 1 << n;
            int last = (shape.stages - 1) * NUMBERS + KEPT;
            long greatest = -1L;
            int first = 0;
            twins[0].beginAgain();
            for (int number = 0; number < rows; number++) {
                // what this row shares with the one ahead of it is not tried again
                int shared = number == 0 ? 0 : n - 1 - Integer.numberOfTrailingZeros(number);
                if (!goOn(number, shared, n, low, high)) {
                    return false;
                }
                long kept = Math.abs(twins[n].numbers[last]);
                if (kept > greatest) {
                    greatest = kept;
                    first = number;
                }
            }
            size = greatest;
            length = n;
            rowNumber = first;
            zero = low;
            one = high;
            return true;
        }

        private boolean goOn(int number, int from, int n, long low, long high) {
            for (int d = from; d < n; d++) {
                twins[d + 1].becomeLike(twins[d]);
                if (!twins[d + 1].makeStep(isOne(number, d, n) ? high : low)) {
                    return false;
                }
            }
            return true;
        }

        /** A row is a number of n bits, the first SAMPLE the highest, so that rows come in their order. */
        private static boolean isOne(int number, int d, int n) {
            return ((number >>> (n - 1 - d)) & 1) == 1;
        }

        long sampleOf(int i) {
            if (i < 0 || i >= length) {
                return 0L;
            }
            return isOne(rowNumber, i, length) ? one : zero;
        }
    }
}
