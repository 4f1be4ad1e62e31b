import java.lang.reflect.Field;
import java.lang.reflect.Method;
import java.lang.reflect.Modifier;
import java.nio.file.Files;
import java.nio.file.Path;
import java.util.ArrayList;
import java.util.List;
import java.util.Random;
import java.util.regex.Matcher;
import java.util.regex.Pattern;

/** The sentences around the promises: what it is, its face, what the interface says, what is not promised. */
public final class AroundEdgesTest extends Edges {
    private static final Path SOURCE = Path.of("src/main/java/OneBitLoop.java");

    private static final String[] REEL_CALLS = {"reel", "lose", "put", "get", "copy", "sample"};
    private static final String[] LOOP_CALLS = {"stage", "levels", "level", "lot", "step", "run", "undo", "clear"};
    private static final String[] ASKS = {
        "stageAt", "levelAt", "record", "forge", "check", "read", "weight", "sums", "trace"};
    private static final String[] COMING_CALLS = {
        "hold", "held", "reach", "leaving", "worst", "worstAt", "count", "digest"};

    /** as the face has them, which is the order of promises 2 to 32 */
    private static final String[] SIGNATURES = {
        "int reel(int r, int form, int n)", "int lose(int r)", "int put(int r, int form, int i, long bits)",
        "long get(int r, int form, int i)", "int copy(int r, int i, int q, int j, int n)", "long sample(int r, int i)",
        "int stage(int kind, long a, int b)", "int levels(int n, long low, long gap)", "int level(int k, long v)",
        "int lot(int span, long seed)", "int step(long sample)", "int run(int r, int i, int n)", "int undo(int n)",
        "int clear()", "long stageAt(int s, int what)", "long levelAt(int k)", "long record(int t, int what)",
        "int forge(int t, int what, long v)", "int check()", "long read(int t)", "int weight(int j, int w)",
        "long sums(int m, int t)", "int trace(int k)", "int hold(long sample, int most)", "long held(int what)",
        "int reach(long low, long high, long most)", "long leaving(int i)", "long worst(int n, long low, long high)",
        "long worstAt(int i)", "int count(int what)", "long digest()"};

    public static void main(String[] args) throws Exception {
        String source = Files.readString(SOURCE);
        whatItIs();
        face(source);
        headings(source);
        notPromised();
        end();
    }

    // ---- what it is

    /** A STAGE of each KIND, and LOTS. */
    private static OneBitLoop ofAllKinds() {
        OneBitLoop x = new OneBitLoop();
        due("plain", x.stage(0, 0, 0), 0);
        due("leaky", x.stage(1, 30, 0), 1);
        due("bounded", x.stage(2, 40, 0), 2);
        due("turning", x.stage(3, 50, 60), 3);
        due("fed", x.stage(4, 70, -3), 4);
        due("levels", x.levels(4, -12, 8), 1);
        due("lot", x.lot(3, 11), 1);
        return x;
    }

    private static void whatItIs() {
        open("## What it is ", "======== 1 ");
        says("A bench that tells rows of samples by few levels,");
        edge("one LEVEL of those there are for each SAMPLE", () -> {
            OneBitLoop x = with(0, 0, 0);
            x.levels(3, -9, 9);
            fill(x, 0, 1, 4, -3, 9, -9, 0, 1);
            due("run", x.run(0, 0, 6), 6);
            for (int t = 0; t < 6; t++) {
                long told = x.record(t, 1);
                due("record(" + t + ", 1)", told == -9 || told == 0 || told == 9);
            }
        });
        says("so that what is lost is pushed away:");
        edge("sums of SAMPLES and of LEVELS stay near one another", () -> {
            OneBitLoop x = with(0, 0, 0);
            x.levels(2, -8, 16);
            Random random = new Random(5);
            long came = 0;
            for (int t = 0; t < 300; t++) {
                long u = random.nextInt(17) - 8;
                came += u;
                steps(x, u);
                due("the difference", Math.abs(came - x.sums(1, t)) <= 16);
            }
        });
        says("reels of any form, some of which are lost;");
        edge("a REEL of each FORM, and then none", () -> {
            OneBitLoop x = new OneBitLoop();
            for (int form = 0; form < 6; form++) {
                due("reel", x.reel(form, form, 10 + form), 10 + form);
            }
            for (int form = 0; form < 6; form++) {
                due("lose", x.lose(form), 10 + form);
                due("lose", x.lose(form), NULL);
            }
        });
        says("loops of stages that add up what came less what was told,");
        edge("each STAGE what the one ahead of it has KEPT", () -> {
            OneBitLoop x = with(0, 0, 0);
            x.stage(0, 0, 0);
            steps(x, 10, 20);
            // 9 and 8 are KEPT behind the first STEP, 28 and 35 behind the second
            recordIs(x, 0, 10, 1, 9, 8);
            recordIs(x, 1, 20, 1, 28, 35);
        });
        says("some of which lose, are cut, turn, are fed beside;");
        edge("lose", () -> {
            OneBitLoop x = with(1, 128, 0);
            steps(x, 11, 0);
            stageIs(x, 0, 4, 0, 11, 2, 5, 0, 1);
        });
        edge("are cut", () -> {
            OneBitLoop x = with(2, 7, 0);
            steps(x, 11);
            stageIs(x, 0, 7, 0, 11, 1, 0, 3, 2);
        });
        edge("turn", () -> {
            OneBitLoop x = with(3, 100, 128);
            steps(x, 11, 0);
            // BESIDE is 5 behind the first STEP: 2 of it are taken off the second SAMPLE
            stageIs(x, 0, 7, 8, 9, 2, 0, 0, 3);
        });
        edge("are fed beside", () -> {
            OneBitLoop x = with(4, 0, 3);
            steps(x, 11);
            stageIs(x, 0, 43, 0, 44, 1, 0, 0, 4);
        });
        says("ledgers that add up,");
        edge("what came, less what was told, LOST and CUT, is KEPT", () -> {
            OneBitLoop x = ofAllKinds();
            Random random = new Random(6);
            for (int t = 0; t < 60; t++) {
                steps(x, random.nextInt(201) - 100);
                ledgersAddUp(x);
            }
            x.undo(30);
            ledgersAddUp(x);
        });
        says("rounds of held samples,");
        edge("a round", () -> {
            OneBitLoop x = with(0, 0, 0);
            x.levels(2, 0, 5);
            due("hold", x.hold(2, 5), 0);
            due("round", x.held(1), 5);
            due("sum", x.held(2), 10);
        });
        says("all that a loop can come to,");
        edge("its STANDS", () -> {
            OneBitLoop x = with(0, 0, 0);
            x.levels(2, 0, 5);
            due("reach", x.reach(2, 2, 9), 5);
        });
        says("the worst of all rows,");
        edge("of four rows", () -> {
            OneBitLoop x = with(0, 0, 0);
            x.levels(2, 0, 5);
            due("worst", x.worst(2, 1, 7), 9);
            worstIs(x, 7, 7);
        });
        says("records that are gone through again.");
        edge("a RECORD as it was made, and one that was forged", () -> {
            OneBitLoop x = ofAllKinds();
            steps(x, 5, 6, 7);
            due("check", x.check(), NONE);
            x.forge(2, 6, x.record(2, 6) - 1);
            due("check", x.check(), 2);
        });
    }

    private static void ledgersAddUp(OneBitLoop x) {
        for (int s = 0; s < x.count(0); s++) {
            long sum = x.stageAt(s, 2) - x.stageAt(s, 3) - x.stageAt(s, 4) - x.stageAt(s, 5);
            due("KEPT of STAGE " + s, x.stageAt(s, 0), sum);
        }
    }

    // ---- the face

    private static void face(String source) {
        open("## The public face", "## Terms");
        says("public final class OneBitLoop {");
        edge("so it begins", () -> {
            due("the text", source.contains("\npublic final class OneBitLoop {\n"));
            due("public", Modifier.isPublic(OneBitLoop.class.getModifiers()));
            due("final", Modifier.isFinal(OneBitLoop.class.getModifiers()));
            due("no package", OneBitLoop.class.getName(), "OneBitLoop");
        });
        says("public static final int NONE = -1, BAD = -2, STATE = -3, FULL = -4, SPENT = -5, GREAT = -6, NOT = -7;");
        edge("each of them", () -> {
            long[] want = {OneBitLoop.NONE, OneBitLoop.BAD, OneBitLoop.STATE, OneBitLoop.FULL, OneBitLoop.SPENT,
                OneBitLoop.GREAT, OneBitLoop.NOT};
            for (int k = 0; k < want.length; k++) {
                due("constant " + k, want[k], -1 - k);
            }
        });
        edge("no others", () -> {
            int open = 0;
            for (Field f : OneBitLoop.class.getDeclaredFields()) {
                open += Modifier.isPrivate(f.getModifiers()) ? 0 : 1;
            }
            due("fields", open, 7);
        });
        says("public OneBitLoop();");
        edge("one constructor, without arguments", () -> {
            due("constructors", OneBitLoop.class.getDeclaredConstructors().length, 1);
            due("arguments", OneBitLoop.class.getConstructors()[0].getParameterCount(), 0);
            due("promise 1", document().contains("## Promise 1: A new object `OneBitLoop()`: "));
        });
        for (int k = 0; k < SIGNATURES.length; k++) {
            call(source, k + 2, SIGNATURES[k]);
        }
    }

    private static void call(String source, int promise, String signature) {
        String name = signature.replaceAll("^\\w+ |\\(.*", "");
        says("public " + signature + ";");
        edge(name + " is so in the class", () -> {
            due("the text", source.contains("    public " + signature + " {\n"));
            int bearing = 0;
            for (Method m : OneBitLoop.class.getDeclaredMethods()) {
                bearing += m.getName().equals(name) ? 1 : 0;
            }
            due("methods of this name", bearing, 1);
        });
        edge(name + " is promise " + promise, () -> due("the document",
            document().contains("## Promise " + promise + ": " + name + " `" + signature + "`: ")));
    }

    private static void due(String what, String got, String want) {
        due(what + " is " + got + ", due is " + want, got.equals(want));
    }

    // ---- what the interface says

    private static void headings(String source) {
        open("They change nothing but as told.", "## Promise 1:");
        heading(source, "reels", REEL_CALLS);
        heading(source, "the loop", LOOP_CALLS);
        heading(source, "asks", ASKS);
        heading(source, "what can come", COMING_CALLS);
    }

    private static void heading(String source, String words, String[] calls) {
        says("Ahead of the calls `" + String.join("`, `", calls) + "` the interface says: ---- " + words + ".");
        edge("the class has them in this order behind these words", () -> {
            int begin = source.indexOf("    // ---- " + words + "\n");
            due("the words", begin >= 0);
            int end = source.indexOf("    // ----", begin + 1);
            due("other words behind them", end > begin);
            List<String> there = new ArrayList<>();
            Matcher m = Pattern.compile("\n    public \\w+ (\\w+)\\(").matcher(source.substring(Math.max(0, begin), end));
            while (m.find()) {
                there.add(m.group(1));
            }
            due("calls", there.toString(), List.of(calls).toString());
        });
    }

    // ---- not promised

    /** Some calls of every sort; what they have come to. */
    private static long use(OneBitLoop x, int seed) {
        Random random = new Random(seed);
        long told = 0;
        for (int t = 0; t < 40; t++) {
            told = 31 * told + x.step(random.nextInt(99) - 49);
            told = 31 * told + x.hold(random.nextInt(9), 20);
            told = 31 * told + x.read(t);
            told = 31 * told + x.weight(t % 8, t);
        }
        return 31 * told + x.digest();
    }

    private static void notPromised() {
        open("## Not promised", END_OF_DOCUMENT);
        says("How the state is held inside the object is free,");
        edge("but inside the object it is: two of them in turn are as each alone", () -> {
            OneBitLoop x = ofAllKinds();
            OneBitLoop y = with(0, 0, 0);
            OneBitLoop alone = ofAllKinds();
            for (int t = 0; t < 50; t++) {
                due("y", y.step(0), (t + 1) % 2);
                due("x", x.step(t * 7 % 23 - 11), alone.step(t * 7 % 23 - 11));
                y.hold(1, 9);
                y.worst(3, 0, 9);
                y.reach(0, 1, 9);
                y.weight(0, t);
            }
            due("digest", x.digest(), alone.digest());
            due("weight", x.weight(0, 0), 0);
            due("held", x.held(1), 0);
            due("worst", x.worstAt(0), 0);
        });
        says("as are the speed of each call, the text of toString and the behaviour of equals and hashCode.");
        edge("they are not of its face", () -> {
            for (Method m : OneBitLoop.class.getDeclaredMethods()) {
                due(m.getName(), !List.of("toString", "equals", "hashCode").contains(m.getName()));
            }
        });
        edge("the dearest calls end", () -> {
            OneBitLoop x = new OneBitLoop();
            for (int s = 0; s < 5; s++) {
                x.stage(3, DEEP, 100);
            }
            x.levels(16, -800, 100);
            for (int k = 0; k < 100; k++) {
                due("worst", x.worst(12, -k, k + 1) >= 0);
            }
        });
        says("Use of one object from several threads at once is not promised to be safe.");
        edge("but each may have its own", () -> {
            long[] got = new long[4];
            Thread[] threads = new Thread[4];
            for (int k = 0; k < 4; k++) {
                int mine = k;
                threads[k] = new Thread(() -> got[mine] = use(ofAllKinds(), mine));
                threads[k].start();
            }
            for (int k = 0; k < 4; k++) {
                joined(threads[k]);
                due("thread " + k, got[k], use(ofAllKinds(), k));
            }
        });
        says("Nothing is promised beyond the answers and state changes described above, "
            + "and nothing about an object after its 512th call.");
        edge("up to its 512th call all is", () -> {
            OneBitLoop x = new OneBitLoop();
            for (int call = 1; call < 512; call++) {
                due("call " + call, x.weight(7, call), call - 1);
            }
            due("the 512th call", x.weight(7, 0), 511);
        });
        edge("behind it no call throws", () -> {
            OneBitLoop x = ofAllKinds();
            for (int round = 0; round < 20; round++) {
                use(x, round);
            }
            due("it ends", x.count(2) <= 300);
        });
    }

    private static void joined(Thread thread) {
        try {
            thread.join();
        } catch (InterruptedException e) {
            throw new IllegalStateException(e);
        }
    }
}
