import java.nio.file.Files;
import java.nio.file.Path;

/**
 * What the tests of the document's sentences share. A test opens a stretch of the document, quotes
 * its words one after the other with says(), and behind each quotation has the edges that would fail
 * if those words were broken. What of a stretch is quoted by none is a fault, and so is a quotation
 * that the document does not have.
 */
abstract class Edges {
    static final int NONE = -1, BAD = -2, STATE = -3, FULL = -4, SPENT = -5, GREAT = -6, NOT = -7;
    static final int NULL = -11, INDEX = -12, CAST = -13, STORE = -14, SIZE = -15;
    static final int LEAST_INT = Integer.MIN_VALUE, MOST_INT = Integer.MAX_VALUE;
    static final long LEAST = Long.MIN_VALUE, MOST = Long.MAX_VALUE;
    /** the ends of a SAMPLE, of a bound, and what is GREAT */
    static final long END = 1000000000000L, DEEP = 1000000000000000L, HUGE = 1L << 50;

    interface Part {
        void go();
    }

    private static final Path DOCUMENT = Path.of("../shared/DOC.md");
    static final String END_OF_DOCUMENT = "(here it ends)";
    private static String document = null;
    private static String stretchName = "";
    /** what of the stretch no quotation has had yet */
    private static StringBuilder left = new StringBuilder();
    private static String quoted = "";
    private static String edgeName = "";
    private static int faultsOfEdge = 0;
    private static int edgesOfQuotation = 0;
    private static int passed = 0;
    private static int failed = 0;

    // ---- the document

    static void promise(int number) {
        String heading = "## Promise " + number + ":";
        open(heading, number < 32 ? "## Promise " + (number + 1) + ":" : "## Not promised");
        int signatureEnds = left.indexOf("`: ");
        if (signatureEnds >= 0) {
            left.delete(0, signatureEnds + 3);
        }
    }

    /** The stretch of the document from some words up to others (or up to its END_OF_DOCUMENT). */
    static void open(String from, String to) {
        close();
        stretchName = from;
        readDocument();
        int begin = document.indexOf(from);
        int end = begin < 0 ? -1 : document.indexOf(to, begin + from.length());
        if (end < 0) {
            fault("the document has no stretch from \"" + from + "\" to \"" + to + "\"");
            return;
        }
        left.append(document, begin + from.length(), end);
    }

    static void says(String words) {
        endQuotation();
        quoted = words;
        int at = left.indexOf(words);
        if (at < 0) {
            fault("the document does not say so, or was quoted already");
            return;
        }
        left.replace(at, at + words.length(), "|");
    }

    /** The document in one line, with END_OF_DOCUMENT behind it. */
    static String document() {
        readDocument();
        return document;
    }

    private static void readDocument() {
        if (document != null) {
            return;
        }
        try {
            document = Files.readString(DOCUMENT).replaceAll("(?m)^```.*$", "").replaceAll("\\s+", " ")
                + END_OF_DOCUMENT;
        } catch (java.io.IOException e) {
            throw new IllegalStateException("no document at " + DOCUMENT);
        }
    }

    private static void endQuotation() {
        if (!quoted.isEmpty() && edgesOfQuotation == 0) {
            fault("no edge");
        }
        quoted = "";
        edgesOfQuotation = 0;
    }

    private static void close() {
        endQuotation();
        String rest = left.toString();
        if (!rest.replaceAll("[^A-Za-z0-9]", "").isEmpty()) {
            fault("quoted by none: " + rest);
        }
        left.setLength(0);
    }

    private static void fault(String text) {
        failed++;
        System.out.println(stretchName + " \"" + quoted + "\": " + text);
    }

    // ---- edges

    static void edge(String name, Part part) {
        edgeName = name;
        edgesOfQuotation++;
        faultsOfEdge = 0;
        try {
            part.go();
        } catch (RuntimeException e) {
            wrong("threw " + e);
        }
        if (faultsOfEdge == 0) {
            passed++;
        } else {
            failed++;
        }
    }

    static void due(String call, long got, long want) {
        if (got != want) {
            wrong(call + " answered " + got + ", due is " + want);
        }
    }

    static void due(String call, boolean holds) {
        if (!holds) {
            wrong(call + " does not hold");
        }
    }

    private static void wrong(String text) {
        faultsOfEdge++;
        System.out.println(stretchName + " \"" + quoted + "\" [" + edgeName + "]: " + text);
    }

    /** The plain closing line, and the exit code. */
    static void end() {
        close();
        System.out.println(passed + " passed, " + failed + " failed");
        if (failed != 0) {
            System.exit(1);
        }
    }

    // ---- objects that many edges begin with

    static OneBitLoop with(int kind, long a, int b) {
        OneBitLoop x = new OneBitLoop();
        due("stage(" + kind + ", " + a + ", " + b + ")", x.stage(kind, a, b), 0);
        return x;
    }

    /** A new object whose REEL 0 has the items of a FORM, by BITS. */
    static OneBitLoop withReel(int form, long... bits) {
        OneBitLoop x = new OneBitLoop();
        fill(x, 0, form, bits);
        return x;
    }

    static void fill(OneBitLoop x, int r, int form, long... bits) {
        due("reel(" + r + ", " + form + ", " + bits.length + ")", x.reel(r, form, bits.length), bits.length);
        for (int i = 0; i < bits.length; i++) {
            due("put(" + r + ", " + form + ", " + i + ", " + bits[i] + ")", x.put(r, form, i, bits[i]), 1);
        }
    }

    static void itemsAre(OneBitLoop x, int r, int form, long... bits) {
        for (int i = 0; i < bits.length; i++) {
            due("get(" + r + ", " + form + ", " + i + ")", x.get(r, form, i), bits[i]);
        }
    }

    static void steps(OneBitLoop x, long... samples) {
        for (long u : samples) {
            due("step(" + u + ") is done", x.step(u) >= 0);
        }
    }

    /** Many STEPS with one SAMPLE, by run() and REEL 5. */
    static void manySteps(OneBitLoop x, int n, long u) {
        long[] row = new long[60];
        java.util.Arrays.fill(row, u);
        fill(x, 5, 3, row);
        int before = x.count(2);
        for (int done = 0; done < n; done += 60) {
            x.run(5, 0, Math.min(60, n - done));
        }
        due("steps done with " + u, x.count(2), before + n);
    }

    static void stageIs(OneBitLoop x, int s, long... numbers) {
        for (int what = 0; what < numbers.length; what++) {
            due("stageAt(" + s + ", " + what + ")", x.stageAt(s, what), numbers[what]);
        }
    }

    static void levelsAre(OneBitLoop x, long... levels) {
        due("count(1)", x.count(1), levels.length);
        for (int k = 0; k < levels.length; k++) {
            due("levelAt(" + k + ")", x.levelAt(k), levels[k]);
        }
    }

    static void traceIs(OneBitLoop x, int... marks) {
        due("count(3)", x.count(3), marks.length);
        for (int k = 0; k < marks.length; k++) {
            due("trace(" + k + ")", x.trace(k), marks[k]);
        }
        due("trace(" + marks.length + ")", x.trace(marks.length), NONE);
    }

    static void recordIs(OneBitLoop x, int t, long... numbers) {
        for (int what = 0; what < numbers.length; what++) {
            due("record(" + t + ", " + what + ")", x.record(t, what), numbers[what]);
        }
    }

    static void leavingIs(OneBitLoop x, long... samples) {
        for (int i = 0; i < samples.length; i++) {
            due("leaving(" + i + ")", x.leaving(i), samples[i]);
        }
        due("leaving(" + samples.length + ")", x.leaving(samples.length), 0);
    }

    static void worstIs(OneBitLoop x, long... samples) {
        for (int i = 0; i < samples.length; i++) {
            due("worstAt(" + i + ")", x.worstAt(i), samples[i]);
        }
        due("worstAt(" + samples.length + ")", x.worstAt(samples.length), 0);
    }

    /** digest() as the document makes it of the asks and a SEED. */
    static void digestIs(OneBitLoop x, long seed) {
        long h = 17;
        for (int s = 0; s < x.count(0); s++) {
            for (int what = 0; what <= 6; what++) {
                h = 31 * h + x.stageAt(s, what);
            }
        }
        for (int k = 0; k < x.count(1); k++) {
            h = 31 * h + x.levelAt(k);
        }
        h = 31 * h + seed;
        for (int t = 0; t < x.count(2); t++) {
            h = 31 * h + x.record(t, 0);
            h = 31 * h + x.record(t, 1);
        }
        due("digest() with the seed " + seed, x.digest(), h);
    }

    static long nextSeed(long seed) {
        return 6364136223846793005L * seed + 1442695040888963407L;
    }
}
