/** Promise by promise: ordinary inputs, the edges that the document names, wrong inputs. */
public final class PromisesTest {
    private static final int NULL = -11, INDEX = -12, CAST = -13, STORE = -14, SIZE = -15;
    private static final int BAD = -2, STATE = -3, FULL = -4, SPENT = -5, GREAT = -6, NOT = -7;
    private static final long LEAST = Long.MIN_VALUE;
    private static final long END = 1000000000000L;
    private static final long DEEP = 1000000000000000L;

    private static int wrong = 0;
    private static String promise = "";

    private static void due(String call, long got, long want) {
        if (got != want) {
            wrong++;
            System.out.println(promise + ": " + call + " answered " + got + ", due is " + want);
        }
    }

    private static OneBitLoop with(int kind, long a, int b) {
        OneBitLoop x = new OneBitLoop();
        due("stage", x.stage(kind, a, b), 0);
        return x;
    }

    private static void steps(OneBitLoop x, long... samples) {
        for (long u : samples) {
            due("step(" + u + ") is done", x.step(u) >= 0 ? 1 : 0, 1);
        }
    }

    private static void traceIs(OneBitLoop x, int... marks) {
        due("count(3)", x.count(3), marks.length);
        for (int k = 0; k < marks.length; k++) {
            due("trace(" + k + ")", x.trace(k), marks[k]);
        }
        due("trace behind the last", x.trace(marks.length), -1);
    }

    private static void newObject() {
        OneBitLoop x = new OneBitLoop();
        for (int r = 0; r < 6; r++) {
            due("lose", x.lose(r), NULL);
        }
        due("lose(6)", x.lose(6), BAD);
        due("stages", x.count(0), 0);
        due("levels", x.count(1), 2);
        due("level 0", x.levelAt(0), -1);
        due("level 1", x.levelAt(1), 1);
        due("steps", x.count(2), 0);
        due("trace", x.count(3), 0);
        due("why", x.count(5), 0);
        due("digest", x.digest(), ((17 * 31L - 1) * 31 + 1) * 31);
        OneBitLoop y = new OneBitLoop();
        due("finding", y.count(4), 0);
    }

    private static void reel() {
        OneBitLoop x = new OneBitLoop();
        due("n 60", x.reel(5, 5, 60), 60);
        due("n 61", x.reel(5, 5, 61), BAD);
        due("n 0", x.reel(0, 0, 0), 0);
        due("reel 6", x.reel(6, 0, 1), BAD);
        due("reel -1", x.reel(-1, 0, 1), BAD);
        due("form 6", x.reel(0, 6, 1), BAD);
        due("form -1", x.reel(0, -1, 1), BAD);
        due("no finding", x.count(4), 0);
        due("bad ahead of size", x.reel(0, 6, -1), BAD);
        due("size", x.reel(5, 0, -1), SIZE);
        due("least", x.reel(5, 0, Integer.MIN_VALUE), SIZE);
        due("finding", x.count(4), 5);
        due("as it was", x.put(5, 5, 59, 7), 1);
        due("new row", x.reel(5, 5, 60), 60);
        due("items are 0", x.get(5, 5, 59), 0);
        x.put(5, 5, 3, 9);
        x.reel(5, 3, 2);
        x.reel(5, 3, 4);
        due("items are 0 again", x.get(5, 3, 3), 0);
        due("another form", x.get(5, 5, 0), 0);
        due("finding", x.count(4), 3);
    }

    private static void lose() {
        OneBitLoop x = new OneBitLoop();
        x.reel(2, 3, 17);
        due("items", x.lose(2), 17);
        due("lost", x.lose(2), NULL);
        due("finding", x.count(4), 1);
        due("bad", x.lose(-1), BAD);
        due("bad", x.lose(6), BAD);
        due("put", x.put(2, 3, 0, 1), NULL);
        x.reel(2, 3, 0);
        due("no items", x.lose(2), 0);
    }

    private static void put() {
        OneBitLoop x = new OneBitLoop();
        due("null", x.put(0, 0, 0, 1), NULL);
        x.reel(0, 0, 2);
        due("put", x.put(0, 0, 1, 0x1FF), 1);
        due("lowest bits", x.get(0, 0, 1), -1);
        due("cast ahead of index", x.put(0, 1, 9, 1), CAST);
        due("finding", x.count(4), 3);
        due("index", x.put(0, 0, 2, 1), INDEX);
        due("index", x.put(0, 0, -1, 1), INDEX);
        due("index", x.put(0, 0, Integer.MIN_VALUE, 1), INDEX);
        due("finding", x.count(4), 2);
        due("form", x.put(0, 6, 0, 1), BAD);
        due("form", x.put(0, -1, 0, 1), BAD);
        due("reel", x.put(6, 0, 0, 1), BAD);
        due("bad ahead of null", x.put(1, 6, 0, 1), BAD);
    }

    private static long putAndGet(int form, long bits) {
        OneBitLoop x = new OneBitLoop();
        x.reel(3, form, 1);
        x.put(3, form, 0, bits);
        return x.get(3, form, 0);
    }

    private static void get() {
        due("byte", putAndGet(0, 0x1280L), -128);
        due("byte", putAndGet(0, 0x17FL), 127);
        due("short", putAndGet(1, 0x128000L), -32768);
        due("int", putAndGet(2, 0x1280000000L), Integer.MIN_VALUE);
        due("long", putAndGet(3, LEAST), LEAST);
        due("float", putAndGet(4, 0x1280000000L), Integer.MIN_VALUE);
        due("float without end", putAndGet(4, 0x7F800000L), 0x7F800000L);
        due("float no number", putAndGet(4, 0x7F800001L), 0x7FC00000L);
        due("float no number", putAndGet(4, 0xFFFFFFFFL), 0x7FC00000L);
        due("double", putAndGet(5, LEAST), LEAST);
        due("double without end", putAndGet(5, 0x7FF0000000000000L), 0x7FF0000000000000L);
        due("double no number", putAndGet(5, 0x7FF0000000000001L), 0x7FF8000000000000L);
        due("double no number", putAndGet(5, -1L), 0x7FF8000000000000L);
        OneBitLoop x = new OneBitLoop();
        due("null", x.get(0, 0, 0), 0);
        due("finding", x.count(4), 1);
        x.reel(0, 2, 1);
        x.put(0, 2, 0, 5);
        due("cast", x.get(0, 3, 0), 0);
        due("finding", x.count(4), 3);
        due("index", x.get(0, 2, 1), 0);
        due("finding", x.count(4), 2);
        due("bad", x.get(6, 2, 0), 0);
        due("bad", x.get(0, 6, 0), 0);
        due("finding", x.count(4), 2);
        due("there", x.get(0, 2, 0), 5);
    }

    private static void copy() {
        OneBitLoop x = new OneBitLoop();
        x.reel(0, 2, 5);
        for (int i = 0; i < 5; i++) {
            x.put(0, 2, i, 10 + i);
        }
        due("up within itself", x.copy(0, 0, 0, 1, 4), 1);
        due("item 4", x.get(0, 2, 4), 13);
        due("item 1", x.get(0, 2, 1), 10);
        due("down within itself", x.copy(0, 2, 0, 0, 3), 1);
        due("item 0", x.get(0, 2, 0), 11);
        due("item 2", x.get(0, 2, 2), 13);
        due("null", x.copy(0, 9, 1, 0, 1), NULL);
        due("null", x.copy(1, 9, 0, 0, 1), NULL);
        due("bad", x.copy(0, 0, 6, 0, 1), BAD);
        due("bad", x.copy(-1, 0, 1, 0, 1), BAD);
        x.reel(1, 4, 5);
        due("store ahead of index", x.copy(0, -1, 1, 0, 1), STORE);
        due("finding", x.count(4), 4);
        x.reel(1, 2, 3);
        due("index", x.copy(0, 3, 1, 0, 3), INDEX);
        due("index", x.copy(0, 0, 1, 1, 3), INDEX);
        due("index", x.copy(0, -1, 1, 0, 1), INDEX);
        due("index", x.copy(0, 0, 1, -1, 1), INDEX);
        due("index", x.copy(0, 0, 1, 0, -1), INDEX);
        due("index", x.copy(0, 6, 1, 0, 0), INDEX);
        due("index", x.copy(0, Integer.MAX_VALUE, 1, 0, Integer.MAX_VALUE), INDEX);
        due("finding", x.count(4), 2);
        due("nothing at the end", x.copy(0, 5, 1, 3, 0), 1);
        due("all", x.copy(1, 0, 0, 2, 3), 1);
        due("item 2", x.get(0, 2, 2), 0);
    }

    private static long sampleOf(int form, long bits) {
        OneBitLoop x = new OneBitLoop();
        x.reel(0, form, 1);
        x.put(0, form, 0, bits);
        return x.sample(0, 0);
    }

    private static long ofFloat(float f) {
        return sampleOf(4, Float.floatToRawIntBits(f));
    }

    private static long ofDouble(double d) {
        return sampleOf(5, Double.doubleToRawLongBits(d));
    }

    private static void sample() {
        due("byte", sampleOf(0, 200), -56);
        due("long", sampleOf(3, END + 1), END);
        due("long", sampleOf(3, -END - 1), -END);
        due("long", sampleOf(3, -END), -END);
        float[] floats = {0f, -0f, 0.99f, 1f, -1.99f, 255.5f, 16777215f, 16777217f, -3.3e9f, 9.99e11f, 1.0e12f,
            1.1e12f, 2.0e12f, Float.MAX_VALUE, Float.MIN_VALUE, Float.NEGATIVE_INFINITY};
        for (float f : floats) {
            due("float " + f, ofFloat(f), Math.max(-END, Math.min(END, (long) f)));
        }
        double[] doubles = {0d, -0d, 0.999999999d, -1d, 3.7d, -123456.789d, 999999999999.99d, 1.0e12d, -1.0e12d,
            1.0999e12d, 4.5e15d, 1e300d, -Double.MAX_VALUE, Double.MIN_VALUE, Double.POSITIVE_INFINITY};
        for (double d : doubles) {
            due("double " + d, ofDouble(d), Math.max(-END, Math.min(END, (long) d)));
        }
        OneBitLoop x = new OneBitLoop();
        x.reel(0, 5, 1);
        x.put(0, 5, 0, -1L);
        due("no number, no step", x.sample(0, 0), 0);
        steps(x, 7, 8);
        due("no number", x.sample(0, 0), 8);
        x.forge(1, 0, 100);
        due("forged does not count", x.sample(0, 0), 8);
        x.undo(1);
        due("undone is no more", x.sample(0, 0), 7);
        due("bad", x.step(END + 1), BAD);
        due("refused is none", x.sample(0, 0), 7);
        x.clear();
        due("cleared", x.sample(0, 0), 0);
        due("index", x.sample(0, 1), 0);
        due("finding", x.count(4), 2);
        due("null", x.sample(1, 0), 0);
        due("finding", x.count(4), 1);
        due("index", x.sample(0, -1), 0);
        due("bad", x.sample(6, 0), 0);
        due("finding", x.count(4), 2);
    }

    private static void stage() {
        OneBitLoop x = new OneBitLoop();
        due("plain a", x.stage(0, 1, 0), BAD);
        due("plain b", x.stage(0, 0, 1), BAD);
        due("leak", x.stage(1, 257, 0), BAD);
        due("leak", x.stage(1, -1, 0), BAD);
        due("leak b", x.stage(1, 0, 1), BAD);
        due("bound", x.stage(2, 0, 0), BAD);
        due("bound", x.stage(2, DEEP + 1, 0), BAD);
        due("bound b", x.stage(2, 1, 1), BAD);
        due("turn", x.stage(3, 1, 257), BAD);
        due("turn", x.stage(3, 1, -1), BAD);
        due("turn bound", x.stage(3, 0, 1), BAD);
        due("factor", x.stage(4, 0, 101), BAD);
        due("factor", x.stage(4, 0, -101), BAD);
        due("fed leak", x.stage(4, 257, 0), BAD);
        due("kind", x.stage(5, 0, 0), BAD);
        due("kind", x.stage(-1, 0, 0), BAD);
        due("none", x.count(0), 0);
        due("0", x.stage(1, 256, 0), 0);
        due("1", x.stage(2, DEEP, 0), 1);
        due("2", x.stage(3, 1, 256), 2);
        due("3", x.stage(4, 0, -100), 3);
        steps(x, 0);
        due("state", x.stage(0, 0, 0), STATE);
        due("bad ahead of state", x.stage(0, 0, 1), BAD);
        x.undo(1);
        due("4", x.stage(0, 0, 0), 4);
        due("full", x.stage(4, 256, 100), FULL);
        due("bad ahead of full", x.stage(4, 256, 101), BAD);
        steps(x, 0);
        due("state ahead of full", x.stage(0, 0, 0), STATE);
        for (int s = 0; s < 5; s++) {
            due("kind of " + s, x.stageAt(s, 6), (s + 1) % 5);
        }
        x.clear();
        due("least", x.stage(1, 0, 0), 0);
        due("least", x.stage(2, 1, 0), 1);
        due("least", x.stage(3, 1, 0), 2);
        due("most", x.stage(3, DEEP, 256), 3);
        due("most", x.stage(4, 256, 100), 4);
    }

    private static void levels() {
        OneBitLoop x = new OneBitLoop();
        due("16", x.levels(16, -8, 3), 1);
        due("count", x.count(1), 16);
        due("0", x.levelAt(0), -8);
        due("15", x.levelAt(15), 37);
        due("1", x.levels(1, 0, 1), BAD);
        due("17", x.levels(17, 0, 1), BAD);
        due("gap", x.levels(2, 0, 0), BAD);
        due("gap", x.levels(2, 0, 1000000001), BAD);
        due("low", x.levels(2, -END - 1, 1), BAD);
        due("low", x.levels(2, Long.MAX_VALUE, 1), BAD);
        due("low", x.levels(2, LEAST, 1), BAD);
        due("high", x.levels(3, END - 1, 1), BAD);
        due("as it was", x.levelAt(15), 37);
        due("high", x.levels(3, END - 1999999999, 1000000000), BAD);
        due("high", x.levels(3, END - 2000000000, 1000000000), 1);
        due("low", x.levels(2, -END, 1), 1);
        steps(x, 0);
        due("bad ahead of state", x.levels(1, 0, 1), BAD);
        due("state", x.levels(2, 0, 1), STATE);
        x.clear();
        due("levels stay", x.levelAt(0), -END);
    }

    private static void level() {
        OneBitLoop x = new OneBitLoop();
        x.levels(3, 0, 10);
        due("1", x.level(1, 19), 1);
        due("as high", x.level(1, 20), BAD);
        due("as low", x.level(1, 0), BAD);
        due("1", x.level(1, 1), 1);
        due("1", x.levelAt(1), 1);
        due("0", x.level(0, 1), BAD);
        due("0", x.level(0, -END), 1);
        due("0", x.level(0, -END - 1), BAD);
        due("2", x.level(2, END), 1);
        due("2", x.level(2, END + 1), BAD);
        due("3", x.level(3, END), BAD);
        due("-1", x.level(-1, -END), BAD);
        due("the same", x.level(1, 1), 1);
        steps(x, 0);
        due("state", x.level(1, 2), STATE);
        due("bad ahead of state", x.level(3, 2), BAD);
    }

    private static void lot() {
        OneBitLoop x = with(0, 0, 0);
        due("span", x.lot(-1, 0), BAD);
        due("span", x.lot(1000000001, 0), BAD);
        due("span", x.lot(1000000000, 5), 1);
        x.levels(16, -900000000, 120000000);
        long seed = 5;
        long kept = 0;
        for (int t = 0; t < 20; t++) {
            seed = 6364136223846793005L * seed + 1442695040888963407L;
            long asked = kept + (seed >>> 33) % 2000000001L - 1000000000L;
            int near = 0;
            for (int k = 1; k < 16; k++) {
                if (Math.abs(x.levelAt(k) - asked) <= Math.abs(x.levelAt(near) - asked)) {
                    near = k;
                }
            }
            due("step " + t, x.step(1000), near);
            kept += 1000 - x.levelAt(near);
        }
        due("kept", x.stageAt(0, 0), kept);
        due("state", x.lot(0, 0), STATE);
        due("bad ahead of state", x.lot(-1, 0), BAD);
        due("check", x.check(), -1);
        long digest = x.digest();
        x.undo(20);
        for (int t = 0; t < 20; t++) {
            x.step(1000);
        }
        due("the same again", x.digest(), digest);
        x.clear();
        x.stage(0, 0, 0);
        for (int t = 0; t < 20; t++) {
            x.step(1000);
        }
        due("the same behind clear()", x.digest(), digest);
    }

    private static void step() {
        OneBitLoop x = with(0, 0, 0);
        due("sample", x.step(END + 1), BAD);
        due("sample", x.step(-END - 1), BAD);
        due("the higher of two", x.step(END), 1);
        due("kept", x.stageAt(0, 0), END - 1);
        due("sample", x.step(-END), 1);
        due("kept", x.stageAt(0, 0), -2);
        due("lower", x.step(0), 0);
        x.clear();
        due("without stages", x.step(-1), 0);
        due("without stages", x.step(0), 1);
        for (int t = 2; t < 300; t++) {
            x.step(0);
        }
        due("steps", x.count(2), 300);
        due("full", x.step(0), FULL);
        due("bad ahead of full", x.step(END + 1), BAD);
        due("steps", x.count(2), 300);
    }

    /** With LEVELS -1, 0, 1 and a SPAN of 1 the first STEP tells its LOT. */
    private static void lots() {
        for (long first = 0; first < 40; first++) {
            OneBitLoop x = with(0, 0, 0);
            x.levels(3, -1, 1);
            x.lot(1, first);
            long seed = 6364136223846793005L * first + 1442695040888963407L;
            due("lot of " + first, x.step(0), (seed >>> 33) % 3);
        }
    }

    private static void kinds() {
        OneBitLoop x = with(1, 100, 0);
        steps(x, 11, 0);
        traceIs(x, 11, 10);
        // 10 kept, 3 of it lost, then 0 less 1
        due("leaky kept", x.stageAt(0, 0), 6);
        due("leaky lost", x.stageAt(0, 4), 3);
        due("leaky came", x.stageAt(0, 2), 11);
        due("leaky told", x.stageAt(0, 3), 2);
        steps(x, -20);
        // 2 of 6 lost, then -20 less 1
        due("leaky kept", x.stageAt(0, 0), -17);
        steps(x, 0);
        // -6 of -17 lost, then 0 less -1
        due("leaky kept", x.stageAt(0, 0), -10);
        due("leaky lost", x.stageAt(0, 4), -1);

        x = with(2, 5, 0);
        steps(x, 9);
        traceIs(x, 12, 10);
        due("bounded kept", x.stageAt(0, 0), 5);
        due("bounded cut", x.stageAt(0, 5), 3);
        steps(x, -19);
        due("bounded kept", x.stageAt(0, 0), -5);
        due("bounded cut", x.stageAt(0, 5), -7);
        due("bounded came", x.stageAt(0, 2), -10);

        x = with(3, 50, 128);
        steps(x, 22);
        traceIs(x, 13, 12, 10);
        due("turning kept", x.stageAt(0, 0), 21);
        due("turning beside", x.stageAt(0, 1), 10);
        steps(x, 3);
        due("turning kept", x.stageAt(0, 0), 21 + (3 - 5) - 1);
        due("turning beside", x.stageAt(0, 1), 19);
        due("turning came", x.stageAt(0, 2), 20);
        steps(x, -100);
        due("turning is cut", x.stageAt(0, 0), -50);
        due("turning beside", x.stageAt(0, 1), -6);
        due("turning cut", x.stageAt(0, 5), 18 - 109 - 1 + 50);

        x = new OneBitLoop();
        x.stage(0, 0, 0);
        x.stage(4, 64, -3);
        steps(x, 10);
        traceIs(x, 10, 14, 11, 10);
        due("ahead kept", x.stageAt(0, 0), 9);
        due("fed kept", x.stageAt(1, 0), 9 - 30 - 1);
        due("fed came", x.stageAt(1, 2), -21);
        steps(x, 1);
        // the level is -1; -22 / 4 cut is -5
        due("ahead kept", x.stageAt(0, 0), 11);
        due("fed lost", x.stageAt(1, 4), -5);
        due("fed kept", x.stageAt(1, 0), -17 + (11 - 3) + 1);
    }

    private static void great() {
        OneBitLoop x = with(4, 0, 100);
        x.lot(3, 77);
        long digest = 0;
        int answer = 0;
        int done = 0;
        for (int t = 0; t < 20 && answer >= 0; t++) {
            digest = x.digest();
            answer = x.step(END);
            done += answer >= 0 ? 1 : 0;
        }
        due("great", answer, GREAT);
        due("steps", x.count(2), 11);
        due("steps", done, 11);
        due("all is as ahead of it", x.digest(), digest);
        traceIs(x, 14, 11, 10);
        due("back again", x.step(-END) >= 0 ? 1 : 0, 1);
        // the bound keeps what was above 2 to the 50 on the way
        x = new OneBitLoop();
        x.stage(4, 0, 100);
        x.stage(2, DEEP, 0);
        for (int t = 0; t < 11; t++) {
            due("step", x.step(END) >= 0 ? 1 : 0, 1);
        }
        due("bounded", x.stageAt(1, 0), DEEP);
        due("check", x.check(), -1);
    }

    /** What is BESIDE can be GREAT, where what is KEPT has a bound. */
    private static void greatBeside() {
        OneBitLoop x = new OneBitLoop();
        x.stage(4, 64, 100);
        x.stage(3, DEEP, 256);
        long ahead = 0;
        long kept = 0;
        long beside = 0;
        int answer = 0;
        for (int t = 0; t < 100 && answer >= 0; t++) {
            long u = kept < 0 ? -END : END;
            long v = kept < 0 ? -1 : 1;
            ahead = ahead - ahead / 4 + 101 * u - v;
            kept = Math.max(-DEEP, Math.min(DEEP, kept + ahead - beside - v));
            beside += kept;
            answer = x.step(u);
            due("great at step " + t, answer == GREAT ? 1 : 0, Math.abs(beside) >= 1L << 50 ? 1 : 0);
        }
        due("great", answer, GREAT);
        due("kept is not", Math.abs(kept) < 1L << 50 ? 1 : 0, 1);
    }

    /**
     * 11 STEPS with 100 times END each, of which all but the first tell the outer LEVEL, and one STEP more:
     * 2 to the 50 is met, or missed by 1.
     */
    private static void exactlyGreat(int sign) {
        OneBitLoop x = new OneBitLoop();
        x.levels(2, sign > 0 ? 0 : -16, 16);
        x.stage(4, 0, 99);
        for (int t = 0; t < 11; t++) {
            x.step(sign * END);
        }
        due("the edge", x.step(sign * 258999068428L), GREAT);
        x.clear();
        x.levels(2, sign > 0 ? 0 : -7, 7);
        x.stage(4, 0, 99);
        for (int t = 0; t < 11; t++) {
            x.step(sign * END);
        }
        due("within it", x.step(sign * 258999068427L), sign > 0 ? 1 : 0);
        due("kept", x.stageAt(0, 0), sign * ((1L << 50) - 1));
    }

    private static void run() {
        OneBitLoop x = with(0, 0, 0);
        due("null", x.run(0, 0, 1), NULL);
        due("bad", x.run(6, 0, 1), BAD);
        due("bad", x.run(-1, 0, 1), BAD);
        x.reel(0, 4, 3);
        due("n", x.run(0, 0, 0), BAD);
        due("n", x.run(0, 0, 301), BAD);
        x.put(0, 4, 0, Float.floatToRawIntBits(4.9f));
        x.put(0, 4, 1, 0xFFFFFFFFL);
        x.put(0, 4, 2, Float.floatToRawIntBits(-2.9f));
        due("all", x.run(0, 0, 3), 3);
        due("sample 0", x.record(0, 0), 4);
        due("no number is the latest", x.record(1, 0), 4);
        due("sample 2", x.record(2, 0), -2);
        x.forge(2, 0, 50);
        due("index", x.run(0, 1, 300), INDEX);
        due("those ahead are done", x.count(2), 5);
        due("what was forged does not count", x.record(3, 0), -2);
        due("index", x.run(0, -1, 1), INDEX);
        due("index", x.run(0, Integer.MAX_VALUE, 300), INDEX);
        due("index", x.run(0, Integer.MIN_VALUE, 300), INDEX);
        due("finding", x.count(4), 2);
        due("none done", x.count(2), 5);
        x.reel(1, 0, 60);
        for (int k = 0; k < 4; k++) {
            x.run(1, 0, 60);
        }
        due("full", x.run(1, 0, 60), FULL);
        due("steps", x.count(2), 300);
        due("index ahead of full", x.run(1, 60, 1), INDEX);
        due("null ahead of full", x.run(2, 0, 1), NULL);
        due("bad ahead of all", x.run(2, 0, 0), BAD);

        x = with(4, 0, 100);
        x.reel(0, 3, 60);
        for (int i = 0; i < 60; i++) {
            x.put(0, 3, i, END);
        }
        due("great", x.run(0, 0, 60), GREAT);
        due("steps", x.count(2), 11);
        traceIs(x, 14, 11, 10);
    }

    private static void undo() {
        OneBitLoop x = new OneBitLoop();
        x.stage(3, 40, 77);
        x.stage(4, 9, 2);
        x.lot(3, 99);
        long[] digests = new long[31];
        for (int t = 0; t < 30; t++) {
            digests[t] = x.digest();
            steps(x, t * 7 % 11 - 4);
        }
        due("none", x.undo(0), 30);
        due("bad", x.undo(-1), BAD);
        due("bad", x.undo(31), BAD);
        int traced = x.count(3);
        due("7", x.undo(7), 23);
        due("as it was", x.digest(), digests[23]);
        due("the trace stays", x.count(3), traced);
        due("no such step", x.record(23, 0), LEAST);
        x.forge(5, 0, 1);
        x.forge(5, 2, 1);
        due("3", x.undo(3), 20);
        due("what was forged stands", x.record(5, 2), 1);
        long kept = x.stageAt(1, 0);
        due("kept as the steps were made", kept, x.record(19, 3));
        due("all", x.undo(20), 0);
        due("as at first", x.digest(), digests[0]);
        due("stage again", x.stage(0, 0, 0), 2);
    }

    private static void clear() {
        OneBitLoop x = new OneBitLoop();
        due("nothing", x.clear(), 0);
        x.levels(3, -2, 2);
        x.lot(2, 31);
        long digest = x.digest();
        x.stage(2, 7, 0);
        steps(x, 1, 2, 3, 4);
        due("steps", x.clear(), 4);
        due("stages", x.count(0), 0);
        due("record", x.count(2), 0);
        due("as ahead of the first step", x.digest(), digest);
        due("trace stays", x.count(3), 2);
        x.stage(0, 0, 0);
        due("a new stage", x.stageAt(0, 0), 0);
        due("a new stage", x.stageAt(0, 5), 0);
        x.lot(0, 0);
        due("lot", x.step(0), 1);
    }

    private static void stageAt() {
        OneBitLoop x = new OneBitLoop();
        due("none", x.stageAt(0, 0), LEAST);
        x.stage(0, 0, 0);
        x.stage(3, 9, 128);
        steps(x, 5);
        long[] want = {3, 1, 4, 1, 0, 0, 3};
        for (int what = 0; what < 7; what++) {
            due("what " + what, x.stageAt(1, what), want[what]);
        }
        due("stage", x.stageAt(2, 0), LEAST);
        due("stage", x.stageAt(-1, 0), LEAST);
        due("what", x.stageAt(0, 7), LEAST);
        due("what", x.stageAt(0, -1), LEAST);
    }

    private static void levelAt() {
        OneBitLoop x = new OneBitLoop();
        due("0", x.levelAt(0), -1);
        due("2", x.levelAt(2), LEAST);
        due("-1", x.levelAt(-1), LEAST);
        x.levels(5, 10, 5);
        due("4", x.levelAt(4), 30);
        x.levels(3, 1, 1);
        due("4", x.levelAt(4), LEAST);
    }

    private static void record() {
        OneBitLoop x = new OneBitLoop();
        due("none", x.record(0, 0), LEAST);
        x.stage(0, 0, 0);
        x.stage(0, 0, 0);
        steps(x, 6, -3);
        long[] first = {6, 1, 5, 4};
        long[] second = {-3, 1, 1, 4};
        for (int what = 0; what < 4; what++) {
            due("first " + what, x.record(0, what), first[what]);
            due("second " + what, x.record(1, what), second[what]);
        }
        due("what", x.record(0, 4), LEAST);
        due("what", x.record(0, -1), LEAST);
        due("step", x.record(2, 0), LEAST);
        due("step", x.record(-1, 0), LEAST);
    }

    private static void forge() {
        OneBitLoop x = with(0, 0, 0);
        due("none", x.forge(0, 0, 0), BAD);
        steps(x, 6, 2);
        long kept = x.stageAt(0, 0);
        due("sample", x.forge(0, 0, END + 1), BAD);
        due("sample", x.forge(0, 0, -END), 1);
        due("level", x.forge(0, 1, Long.MAX_VALUE), 1);
        due("kept", x.forge(1, 2, LEAST), 1);
        due("sample", x.record(0, 0), -END);
        due("level", x.record(0, 1), Long.MAX_VALUE);
        due("kept", x.record(1, 2), LEAST);
        due("the loop is as it was", x.stageAt(0, 0), kept);
        due("what", x.forge(0, 3, 0), BAD);
        due("what", x.forge(0, -1, 0), BAD);
        due("step", x.forge(2, 0, 0), BAD);
        due("step", x.forge(-1, 0, 0), BAD);
    }

    private static void check() {
        OneBitLoop x = new OneBitLoop();
        due("empty", x.check(), -1);
        x.stage(0, 0, 0);
        x.stage(3, 30, 50);
        x.lot(2, 8);
        steps(x, 6, 2, -3, 4);
        long digest = x.digest();
        due("none", x.check(), -1);
        due("nothing is changed", x.digest(), digest);
        x.forge(3, 2, x.record(3, 2) + 1);
        due("kept", x.check(), 3);
        x.forge(3, 2, x.record(3, 2) - 1);
        due("as it was", x.check(), -1);
        x.forge(3, 3, x.record(3, 3) + 1);
        due("kept by the last", x.check(), 3);
        x.forge(2, 1, 0);
        due("level", x.check(), 2);
        x.forge(1, 0, 3);
        due("sample", x.check(), 1);
        traceIs(x, 10, 13, 12, 10);
        x.clear();
        steps(x, 5, -5);
        x.forge(0, 0, 7);
        due("the level is the same", x.check(), -1);
        x.forge(0, 0, -7);
        due("the level is another", x.check(), 0);

        x = new OneBitLoop();
        x.stage(4, 0, 100);
        for (int t = 0; t < 11; t++) {
            x.step(END);
        }
        x.step(-END);
        due("none", x.check(), -1);
        x.forge(11, 0, END);
        due("great", x.check(), 11);
    }

    private static void read() {
        OneBitLoop x = new OneBitLoop();
        due("no step", x.read(0), 0);
        for (int t = 0; t < 10; t++) {
            x.step(0);
            x.forge(t, 1, 1L << (4 * t));
        }
        for (int j = 0; j < 8; j++) {
            x.weight(j, j + 1);
        }
        due("first", x.read(0), 1);
        due("second", x.read(1), 0x12);
        due("eighth", x.read(7), 0x12345678L);
        due("tenth", x.read(9), 0x1234567800L);
        due("none", x.read(10), 0);
        due("none", x.read(-1), 0);
        x.forge(0, 1, Long.MAX_VALUE);
        x.weight(0, 3);
        due("wraps", x.read(0), 3 * Long.MAX_VALUE);
    }

    private static void weight() {
        OneBitLoop x = new OneBitLoop();
        due("first", x.weight(7, -5), 0);
        due("second", x.weight(7, Integer.MAX_VALUE), -5);
        due("third", x.weight(7, 0), Integer.MAX_VALUE);
        due("another", x.weight(0, 1), 0);
        due("bad", x.weight(8, 0), Integer.MIN_VALUE);
        due("bad", x.weight(-1, 0), Integer.MIN_VALUE);
        x.clear();
        due("clear leaves it", x.weight(0, 1), 1);
    }

    private static void sums() {
        OneBitLoop x = new OneBitLoop();
        due("no step", x.sums(1, 0), 0);
        for (int t = 0; t < 5; t++) {
            x.step(0);
        }
        long[] want = {5, 15, 35, 70};
        for (int m = 1; m <= 4; m++) {
            due("m " + m, x.sums(m, 4), want[m - 1]);
            due("first " + m, x.sums(m, 0), 1);
        }
        due("m", x.sums(0, 4), 0);
        due("m", x.sums(5, 4), 0);
        due("t", x.sums(1, 5), 0);
        due("t", x.sums(1, -1), 0);
        x.forge(0, 1, Long.MAX_VALUE);
        due("wraps", x.sums(2, 1), Long.MAX_VALUE + Long.MAX_VALUE + 1);
    }

    private static void trace() {
        OneBitLoop x = new OneBitLoop();
        due("none", x.trace(0), -1);
        steps(x, 0);
        traceIs(x);
        x.undo(1);
        for (int s = 0; s < 5; s++) {
            x.stage(3, 5, 1);
        }
        steps(x, 0, 1);
        traceIs(x, 13, 12, 10, 13, 12, 10, 13, 12, 10, 13, 12, 10, 13, 12, 10);
        due("-1", x.trace(-1), -1);
        x.hold(1, 5);
        x.worst(2, 0, 1);
        x.check();
        due("step refused", x.step(END + 1), BAD);
        due("stays", x.count(3), 15);
        x.clear();
        due("stays", x.trace(0), 13);
        steps(x, 0);
        traceIs(x);
    }

    private static void hold() {
        OneBitLoop x = with(0, 0, 0);
        x.levels(2, -8, 16);
        due("at once", x.hold(3, 16), 0);
        due("round", x.held(1), 16);
        due("sum", x.held(2), 48);
        due("one too few", x.hold(3, 15), SPENT);
        due("most", x.hold(3, 0), BAD);
        due("most", x.hold(3, 401), BAD);
        due("sample", x.hold(END + 1, 1), BAD);
        due("refused leaves it", x.held(1), 16);
        x.clear();
        due("without stages", x.hold(-5, 1), 0);
        due("round", x.held(1), 1);
        due("sum", x.held(2), -8);
        x.lot(1, 1);
        due("the seed never comes round", x.hold(-5, 400), SPENT);
        x.lot(0, 1);
        x.levels(2, -1, 2);
        x.stage(4, 0, 100);
        due("great", x.hold(END, 400), GREAT);
        due("great is the twelfth", x.hold(END, 12), GREAT);
        due("spent ahead of it", x.hold(END, 11), SPENT);
        due("nothing is done", x.count(2), 0);
        x.clear();
        x.stage(2, 10, 0);
        long digest = x.digest();
        due("comes", x.hold(4, 400), 4);
        due("round", x.held(1), 1);
        due("sum", x.held(2), 1);
        due("nothing is changed", x.digest(), digest);
        // what is beside counts as well: kept, beside are 0 0, 1 1, 1 2, 0 2, -1 1, 1 2
        x.clear();
        x.stage(3, 1, 256);
        due("comes", x.hold(2, 400), 2);
        due("round", x.held(1), 3);
        due("sum", x.held(2), 1);
    }

    private static void held() {
        OneBitLoop x = new OneBitLoop();
        for (int what = 0; what < 3; what++) {
            due("before any", x.held(what), 0);
        }
        due("bad", x.held(3), LEAST);
        due("bad", x.held(-1), LEAST);
        x.stage(0, 0, 0);
        x.levels(2, 0, 1);
        due("hold", x.hold(1, 400), 1);
        due("comes", x.held(0), 1);
        due("round", x.held(1), 1);
        due("sum", x.held(2), 1);
        due("bad", x.hold(1, 0), BAD);
        due("spent", x.hold(2, 400), SPENT);
        due("comes stays", x.held(0), 1);
        x.clear();
        due("round stays", x.held(1), 1);
    }

    private static void reach() {
        OneBitLoop x = new OneBitLoop();
        due("no stages", x.reach(0, 1, 5), NOT);
        due("bad ahead of not", x.reach(0, 7, 5), BAD);
        x.stage(0, 0, 0);
        due("low", x.reach(-END - 1, -END, 5), BAD);
        due("high", x.reach(END, END + 1, 5), BAD);
        due("turned", x.reach(1, 0, 5), BAD);
        due("far", x.reach(LEAST, Long.MAX_VALUE, 5), BAD);
        due("most", x.reach(0, 1, 0), BAD);
        due("most", x.reach(0, 1, DEEP + 1), BAD);
        due("six above", x.reach(-3, 3, DEEP), SPENT);
        due("rises for ever", x.reach(2, 2, DEEP), SPENT);
        due("leaves by the 500th", x.reach(2, 2, 499), -600);
        due("the last", x.leaving(499), 2);
        due("behind the last", x.leaving(500), 0);
        due("one stand more", x.reach(2, 2, 500), SPENT);
        // 0, -2, -1, 1
        due("stands", x.reach(-1, 1, 2), 4);
        due("leaves", x.reach(-1, 1, 1), -101);
        x.clear();
        x.lot(1, 0);
        x.stage(0, 0, 0);
        due("span", x.reach(0, 1, 5), NOT);
        x.lot(0, 0);
        x.stage(3, 5, 5);
        due("turning", x.reach(0, 1, 5), NOT);
        x.clear();
        x.stage(3, 5, 5);
        due("turning", x.reach(0, 1, 5), NOT);
        x.stage(0, 0, 0);
        due("turning", x.reach(0, 1, 5), NOT);
        x.clear();
        for (int s = 0; s < 3; s++) {
            x.stage(0, 0, 0);
        }
        due("three", x.reach(0, 1, 5), NOT);
        x.clear();
        x.stage(0, 0, 0);
        x.stage(0, 0, 0);
        int stands = x.reach(0, 0, DEEP);
        due("two", stands > 0 ? 1 : 0, 1);
        long digest = x.digest();
        x.reach(-1, 1, 20);
        due("nothing is changed", x.digest(), digest);
        x.clear();
        x.stage(4, 0, 100);
        due("great", x.reach(END - 6, END, DEEP), -100 - 10);
        steps(x, END, END, END, END, END, END, END, END, END, END, END);
        due("great", x.reach(END, END, DEEP), GREAT);
    }

    /** What THE LOOP has KEPT as it is may be more than most; what comes back to it may not. */
    private static void firstStand() {
        OneBitLoop x = with(2, 100, 0);
        x.levels(2, 0, 1);
        steps(x, 21);
        due("kept", x.stageAt(0, 0), 21);
        due("comes back", x.reach(1, 1, 20), -101);
        due("stays", x.reach(1, 1, 21), 1);
        // 21, 15, 9, 3, -3, -8, -13, -18
        due("is not asked", x.reach(-5, -5, 15), -107);
        due("the second is", x.reach(-5, -5, 14), -101);
    }

    private static void leaving() {
        OneBitLoop x = with(0, 0, 0);
        due("before any", x.leaving(0), 0);
        // 0; by 1 to 4: 0, 1, 2, 3; then 4, 5; and from 3, to which 4 led, by 4: 6
        due("leaves", x.reach(1, 4, 5), -102);
        due("0", x.leaving(0), 4);
        due("1", x.leaving(1), 4);
        due("2", x.leaving(2), 0);
        due("-1", x.leaving(-1), 0);
        due("bad", x.reach(1, 0, 5), BAD);
        due("bad leaves it", x.leaving(1), 4);
        due("does not leave", x.reach(0, 0, 5), 2);
        due("gone", x.leaving(0), 0);
        x.reach(1, 4, 5);
        due("spent", x.reach(2, 2, DEEP), SPENT);
        due("gone", x.leaving(0), 0);
        x.reach(1, 4, 5);
        x.clear();
        due("not", x.reach(0, 0, 5), NOT);
        due("not leaves it", x.leaving(0), 4);
        due("not leaves it", x.leaving(1), 4);
        x.stage(4, 0, 100);
        x.reach(1, 4, 5);
        due("one", x.leaving(0), 1);
        steps(x, END, END, END, END, END, END, END, END, END, END, END);
        due("great", x.reach(END, END, DEEP), GREAT);
        due("gone", x.leaving(0), 0);
    }

    private static void worst() {
        OneBitLoop x = new OneBitLoop();
        due("no stages", x.worst(1, 0, 1), LEAST);
        due("why", x.count(5), NOT);
        due("bad ahead of not", x.worst(0, 0, 1), LEAST);
        due("why", x.count(5), BAD);
        x.stage(0, 0, 0);
        x.levels(2, -8, 16);
        steps(x, 30);
        due("at rest", x.worst(1, -8, 8), 16);
        due("why", x.count(5), 0);
        due("3", x.worst(3, -8, 8), 16);
        // 0 comes behind an even number of steps alone, and 13 behind 0 alone
        due("11", x.worst(11, 5, -5), 13);
        due("12", x.worst(12, 5, -5), 12);
        due("13", x.worst(13, 5, -5), LEAST);
        due("low", x.worst(1, -END - 1, 0), LEAST);
        due("high", x.worst(1, 0, END + 1), LEAST);
        due("why", x.count(5), BAD);
        due("the steps stay", x.count(2), 1);
        due("kept stays", x.stageAt(0, 0), 22);
        x.clear();
        x.stage(4, 0, 100);
        due("not great yet", x.worst(11, -END, END) > 0 ? 1 : 0, 1);
        due("great", x.worst(12, 0, END), LEAST);
        due("why", x.count(5), GREAT);
        x.lot(1, 0);
        due("span", x.worst(1, 0, 1), LEAST);
        due("why", x.count(5), NOT);
        // the last stage, not the first
        x = new OneBitLoop();
        x.stage(0, 0, 0);
        x.stage(2, 2, 0);
        due("the last", x.worst(3, -50, 50), 2);
    }

    private static void worstAt() {
        OneBitLoop x = with(0, 0, 0);
        x.levels(2, -8, 16);
        due("before any", x.worstAt(0), 0);
        // -5, then 6 or 12; 1, then -4 or 2
        due("2", x.worst(2, 3, 9), 12);
        due("0", x.worstAt(0), 3);
        due("1", x.worstAt(1), 9);
        due("2", x.worstAt(2), 0);
        due("-1", x.worstAt(-1), 0);
        x.worst(0, 3, 9);
        due("refused leaves it", x.worstAt(1), 9);
        x.clear();
        due("not", x.worst(2, 3, 9), LEAST);
        due("refused leaves it", x.worstAt(0), 3);
        x.stage(0, 0, 0);
        due("low ahead of high", x.worst(1, 16, 0), 8);
        due("low ahead of high", x.worstAt(0), 16);
        due("low ahead of high", x.worst(1, 0, 16), 8);
        due("low ahead of high", x.worstAt(0), 0);
    }

    private static void count() {
        OneBitLoop x = new OneBitLoop();
        x.stage(0, 0, 0);
        x.stage(2, 1, 0);
        x.levels(7, 0, 1);
        steps(x, 1, 1, 1);
        x.lose(0);
        x.worst(0, 0, 0);
        int[] want = {2, 7, 3, 3, 1, BAD};
        for (int what = 0; what < 6; what++) {
            due("what " + what, x.count(what), want[what]);
        }
        due("bad", x.count(6), BAD);
        due("bad", x.count(-1), BAD);
        x.lose(9);
        due("bad is no finding", x.count(4), 1);
    }

    private static void digest() {
        OneBitLoop x = new OneBitLoop();
        x.stage(3, 9, 128);
        x.stage(1, 128, 0);
        x.levels(4, -3, 2);
        x.lot(2, 12345);
        steps(x, 5, -2, 4);
        x.forge(1, 0, 77);
        x.forge(2, 1, -99);
        x.forge(2, 2, 1000);
        long seed = 12345;
        long h = 17;
        for (int t = 0; t < 3; t++) {
            seed = 6364136223846793005L * seed + 1442695040888963407L;
        }
        for (int s = 0; s < 2; s++) {
            for (int what = 0; what < 7; what++) {
                h = 31 * h + x.stageAt(s, what);
            }
        }
        for (int k = 0; k < 4; k++) {
            h = 31 * h - 3 + 2 * k;
        }
        h = 31 * h + seed;
        for (int t = 0; t < 3; t++) {
            h = 31 * h + x.record(t, 0);
            h = 31 * h + x.record(t, 1);
        }
        due("digest", x.digest(), h);
        due("again", x.digest(), h);
    }

    private static void part(int number) {
        promise = "promise " + number;
        switch (number) {
            case 1: newObject(); break;
            case 2: reel(); break;
            case 3: lose(); break;
            case 4: put(); break;
            case 5: get(); break;
            case 6: copy(); break;
            case 7: sample(); break;
            case 8: stage(); break;
            case 9: levels(); break;
            case 10: level(); break;
            case 11: lot(); lots(); break;
            case 12: step(); kinds(); great(); greatBeside(); exactlyGreat(1); exactlyGreat(-1); break;
            case 13: run(); break;
            case 14: undo(); break;
            case 15: clear(); break;
            case 16: stageAt(); break;
            case 17: levelAt(); break;
            case 18: record(); break;
            case 19: forge(); break;
            case 20: check(); break;
            case 21: read(); break;
            case 22: weight(); break;
            case 23: sums(); break;
            case 24: trace(); break;
            case 25: hold(); break;
            case 26: held(); break;
            case 27: reach(); firstStand(); break;
            case 28: leaving(); break;
            case 29: worst(); break;
            case 30: worstAt(); break;
            case 31: count(); break;
            default: digest(); break;
        }
    }

    public static void main(String[] args) {
        for (int number = 1; number <= 32; number++) {
            part(number);
        }
        System.out.println(wrong == 0 ? "all promises hold" : wrong + " answers are not as due");
        if (wrong != 0) {
            System.exit(1);
        }
    }
}
