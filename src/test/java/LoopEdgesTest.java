import java.math.BigInteger;

/** The sentences on THE LOOP in "Terms": what it has, a STEP, TAKING by KINDS, GREAT, THE RECORD. */
public final class LoopEdgesTest extends Edges {
    public static void main(String[] args) {
        theLoop();
        aStage();
        lots();
        nearest();
        taking();
        plainAndLeaky();
        bounded();
        turning();
        fed();
        greatKept();
        greatBeside();
        greatIsNotDone();
        theRecord();
        end();
    }

    private static void theLoop() {
        open("======== 2 ", "======== 3");
        says("THE LOOP has up to 5 STAGES, numbered from 0,");
        edge("five, and no sixth", () -> {
            OneBitLoop x = new OneBitLoop();
            for (int s = 0; s < 5; s++) {
                due("stage", x.stage(s, s == 0 ? 0 : 1, 0), s);
            }
            due("sixth", x.stage(0, 0, 0), FULL);
            due("count", x.count(0), 5);
            for (int s = 0; s < 5; s++) {
                due("kind", x.stageAt(s, 6), s);
            }
            due("no STAGE 5", x.stageAt(5, 6), LEAST);
        });
        edge("none", () -> due("step", new OneBitLoop().step(1), 1));
        says("LEVELS (2 to 16 numbers, rising;");
        edge("2", () -> {
            OneBitLoop x = new OneBitLoop();
            due("levels", x.levels(2, 5, 1), 1);
            levelsAre(x, 5, 6);
            due("no LEVEL 2", x.levelAt(2), LEAST);
        });
        edge("16", () -> {
            OneBitLoop x = new OneBitLoop();
            due("levels", x.levels(16, 5, 1), 1);
            levelsAre(x, 5, 6, 7, 8, 9, 10, 11, 12, 13, 14, 15, 16, 17, 18, 19, 20);
            due("no LEVEL 16", x.levelAt(16), LEAST);
        });
        edge("not 1, not 17", () -> {
            due("1", new OneBitLoop().levels(1, 0, 1), BAD);
            due("17", new OneBitLoop().levels(17, 0, 1), BAD);
        });
        edge("rising", () -> {
            due("alike", new OneBitLoop().level(0, 1), BAD);
            due("falling", new OneBitLoop().level(0, 2), BAD);
            due("rising", new OneBitLoop().level(0, 0), 1);
        });
        says("-1 and 1 at first),");
        edge("of a new object", () -> levelsAre(new OneBitLoop(), -1, 1));
        says("a SPAN (0 at first)");
        edge("the LOT is 0", () -> {
            OneBitLoop x = new OneBitLoop();
            due("low", x.step(-1), 0);
            due("high", x.step(1), 1);
        });
        edge("worst() and reach() are not refused", () -> {
            OneBitLoop x = with(0, 0, 0);
            due("worst", x.worst(1, 0, 0), 1);
            due("reach", x.reach(0, 0, 9), 2);
        });
        says("and a SEED (a long, 0 at first).");
        edge("of a new object", () -> digestIs(new OneBitLoop(), 0));
        edge("of one that goes back to its beginning", () -> {
            OneBitLoop x = new OneBitLoop();
            steps(x, 1);
            x.undo(1);
            digestIs(x, 0);
            x.clear();
            digestIs(x, 0);
        });
        edge("the ends of a long", () -> {
            for (long seed : new long[] {LEAST, MOST, -1}) {
                OneBitLoop x = new OneBitLoop();
                due("lot", x.lot(0, seed), 1);
                digestIs(x, seed);
            }
        });
    }

    private static void aStage() {
        says("A STAGE has a KIND, a number KEPT (0 at first), one BESIDE (0), and a ledger: "
            + "CAME, TOLD, LOST, CUT (0).");
        for (int k = 0; k < 5; k++) {
            int kind = k;
            edge("KIND " + k, () -> stageIs(with(kind, kind == 0 ? 0 : 1, 0), 0, 0, 0, 0, 0, 0, 0, kind));
        }
        edge("where another one was", () -> {
            OneBitLoop x = with(3, 5, 256);
            steps(x, 9, -3, 100);
            x.clear();
            x.stage(2, 1, 0);
            stageIs(x, 0, 0, 0, 0, 0, 0, 0, 2);
        });
        edge("each of its own", () -> {
            OneBitLoop x = with(0, 0, 0);
            x.stage(3, 3, 256);
            x.stage(1, 256, 0);
            steps(x, 9, 9);
            stageIs(x, 0, 16, 0, 18, 2, 0, 0, 0);
            stageIs(x, 1, 3, 6, 21, 2, 0, 16, 3);
            stageIs(x, 2, 2, 0, 6, 2, 2, 0, 1);
        });
    }

    // ---- a STEP

    private static final BigInteger LONGS = BigInteger.ONE.shiftLeft(64);

    /** The SEED behind a STEP, as a number without a sign. */
    private static BigInteger seedBehind(long seed) {
        return BigInteger.valueOf(seed).multiply(new BigInteger("6364136223846793005"))
            .add(new BigInteger("1442695040888963407")).mod(LONGS);
    }

    /** With LEVELS that part just here, the LOT is told by two of them. */
    private static void lotIs(long seed, int span, long lot) {
        OneBitLoop x = new OneBitLoop();
        x.lot(span, seed);
        x.levels(2, lot - 1, 1);
        due("the lot of " + seed + " is " + lot + " or more", x.step(0), 1);
        x = new OneBitLoop();
        x.lot(span, seed);
        x.levels(2, lot, 1);
        due("the lot of " + seed + " is " + lot + " or less", x.step(0), 0);
    }

    private static void lots() {
        says("A STEP with a SAMPLE u: the LOT is 0 if SPAN is 0;");
        edge("whatever the SEED is", () -> {
            for (long seed : new long[] {0, 1, -1, LEAST, MOST, 12345}) {
                lotIs(seed, 0, 0);
            }
        });
        edge("the SEED stays", () -> {
            OneBitLoop x = with(0, 0, 0);
            x.lot(0, 777);
            steps(x, 1, 2, 3);
            digestIs(x, 777);
        });
        says("else the SEED becomes 6364136223846793005 SEED + 1442695040888963407 (as longs that wrap),");
        for (long seed : new long[] {0, 1, 2, -1, LEAST, MOST, 0x123456789ABCDEFL}) {
            edge("SEED " + seed, () -> {
                OneBitLoop x = new OneBitLoop();
                x.lot(1, seed);
                steps(x, 0);
                long next = seedBehind(seed).longValue();
                digestIs(x, next);
                steps(x, 0);
                digestIs(x, seedBehind(next).longValue());
            });
        }
        says("the LOT is its upper 31 bits (shifted right by 33, without a sign) modulo 2 SPAN + 1, less SPAN.");
        for (int span : new int[] {1, 2, 5, 1000, 999999999, 1000000000}) {
            edge("SPAN " + span, () -> {
                for (long seed = -8; seed < 8; seed++) {
                    BigInteger whole = BigInteger.valueOf(2).multiply(BigInteger.valueOf(span)).add(BigInteger.ONE);
                    long lot = seedBehind(seed).shiftRight(33).mod(whole).longValue() - span;
                    lotIs(seed, span, lot);
                }
            });
        }
        edge("without a sign: a SEED that becomes one below 0", () -> {
            long seed = 0;
            for (int tries = 0; tries < 64 && seedBehind(seed).longValue() >= 0; tries++) {
                seed++;
            }
            due("it is below 0", seedBehind(seed).longValue() < 0);
            lotIs(seed, 1000000000, seedBehind(seed).shiftRight(33).longValue() % 2000000001L - 1000000000L);
        });
        edge("of each STEP another one", () -> {
            OneBitLoop x = new OneBitLoop();
            x.levels(5, -2, 1);
            x.lot(2, 5);
            long seed = 5;
            for (int t = 0; t < 40; t++) {
                seed = seedBehind(seed).longValue();
                due("level of step " + t, x.step(0), (seed >>> 33) % 5);
            }
        });
    }

    private static void nearest() {
        says("The LEVEL v is the one nearest to what the last STAGE has KEPT and the LOT together,");
        edge("below the lowest, above the highest", () -> {
            OneBitLoop x = new OneBitLoop();
            x.levels(3, -10, 10);
            due("far below", x.step(-END), 0);
            due("far above", x.step(END), 2);
        });
        edge("one less than the middle, one more", () -> {
            OneBitLoop x = new OneBitLoop();
            x.levels(3, 0, 7);
            int[] want = {0, 0, 0, 0, 1, 1, 1, 1, 1, 1, 1, 2, 2, 2, 2};
            for (int u = 0; u < want.length; u++) {
                due("nearest to " + u, x.step(u), want[u]);
            }
        });
        edge("of sixteen", () -> {
            OneBitLoop x = new OneBitLoop();
            x.levels(16, -80, 10);
            for (int k = 0; k < 16; k++) {
                due("a bit below " + k, x.step(-84 + 10 * k), k);
                due("a bit above " + k, x.step(-76 + 10 * k), k);
            }
        });
        edge("not evenly", () -> {
            OneBitLoop x = new OneBitLoop();
            x.levels(3, 0, 100);
            x.level(1, 2);
            due("0", x.step(0), 0);
            due("2", x.step(2), 1);
            due("50", x.step(50), 1);
            due("100", x.step(100), 1);
            due("102", x.step(102), 2);
        });
        edge("LEVELS at the ends", () -> {
            OneBitLoop x = new OneBitLoop();
            x.level(0, -END);
            x.level(1, END);
            due("-1", x.step(-1), 0);
            due("0", x.step(0), 1);
            due("low", x.step(-END), 0);
            due("high", x.step(END), 1);
        });
        edge("the last STAGE, not the first, as it is ahead of the STEP", () -> {
            OneBitLoop x = with(0, 0, 0);
            x.stage(4, 0, -3);
            due("at rest", x.step(10), 1);
            stageIs(x, 0, 9);
            stageIs(x, 1, -22);
            due("the last is below 0", x.step(10), 0);
        });
        edge("ahead of what it loses", () -> {
            OneBitLoop x = with(1, 256, 0);
            x.levels(3, -10, 10);
            due("first", x.step(6), 1);
            stageIs(x, 0, 6);
            due("nearest to 6", x.step(0), 2);
            stageIs(x, 0, -10, 0, 6, 10, 6);
        });
        edge("and the LOT", () -> {
            for (long seed = 0; seed < 20; seed++) {
                OneBitLoop x = with(0, 0, 0);
                x.levels(16, 0, 1);
                x.lot(0, 0);
                x.lot(3, seed);
                long kept = 0;
                long at = seed;
                for (int t = 0; t < 10; t++) {
                    at = nextSeed(at);
                    long asked = kept + (at >>> 33) % 7 - 3;
                    long level = Math.max(0, Math.min(15, asked));
                    due("step " + t, x.step(8), level);
                    kept += 8 - level;
                }
            }
        });
        says("of two as near the higher one");
        edge("each pair", () -> {
            OneBitLoop x = new OneBitLoop();
            x.levels(4, -3, 2);
            due("-2", x.step(-2), 1);
            due("0", x.step(0), 2);
            due("2", x.step(2), 3);
        });
        edge("a STAGE at rest", () -> due("0", with(0, 0, 0).step(5), 1));
        says("(without STAGES: to u and the LOT).");
        edge("u", () -> {
            OneBitLoop x = new OneBitLoop();
            x.levels(3, -5, 5);
            due("-3", x.step(-3), 0);
            due("-2", x.step(-2), 1);
            due("2", x.step(2), 1);
            due("3", x.step(3), 2);
        });
        edge("and the LOT", () -> {
            for (long seed = 0; seed < 20; seed++) {
                OneBitLoop x = new OneBitLoop();
                x.levels(7, 17, 1);
                x.lot(3, seed);
                due("level", x.step(20), (nextSeed(seed) >>> 33) % 7);
            }
        });
        edge("it is done all the same", () -> {
            OneBitLoop x = new OneBitLoop();
            due("step", x.step(9), 1);
            due("count", x.count(2), 1);
            recordIs(x, 0, 9, 1, LEAST);
        });
        says("Then each STAGE, from 0 on, TAKES x and v: x is u for the first, "
            + "else what the one ahead has KEPT by then.");
        edge("five of them", () -> {
            OneBitLoop x = new OneBitLoop();
            for (int s = 0; s < 5; s++) {
                x.stage(0, 0, 0);
            }
            steps(x, 10);
            for (int s = 0; s < 5; s++) {
                stageIs(x, s, 9 - s, 0, 10 - s, 1);
            }
            steps(x, -1);
            // each has what it had, and what the one ahead has now, less 1
            long kept = -1;
            for (int s = 0; s < 5; s++) {
                kept = 9 - s + kept - 1;
                stageIs(x, s, kept);
            }
        });
        edge("behind the cut of the one ahead", () -> {
            OneBitLoop x = with(2, 4, 0);
            x.stage(0, 0, 0);
            steps(x, 100);
            stageIs(x, 0, 4, 0, 100, 1, 0, 95);
            stageIs(x, 1, 3, 0, 4, 1);
        });
    }

    // ---- TAKING

    private static void taking() {
        says("TAKING by KINDS, each of which writes its number behind THE TRACE as it begins");
        edge("in their order", () -> {
            OneBitLoop x = with(4, 1, 1);
            x.stage(3, 1, 1);
            x.stage(2, 1, 0);
            x.stage(1, 1, 0);
            x.stage(0, 0, 0);
            steps(x, 5);
            traceIs(x, 14, 11, 10, 13, 12, 10, 12, 10, 11, 10, 10);
        });
        edge("fifteen at most", () -> {
            OneBitLoop x = new OneBitLoop();
            for (int s = 0; s < 5; s++) {
                x.stage(4, 1, 1);
            }
            steps(x, 5);
            traceIs(x, 14, 11, 10, 14, 11, 10, 14, 11, 10, 14, 11, 10, 14, 11, 10);
        });
        says("(THE TRACE is emptied as a STEP of step(), run() begins):");
        edge("step()", () -> {
            OneBitLoop x = with(1, 1, 0);
            steps(x, 5, 6, 7);
            traceIs(x, 11, 10);
        });
        edge("each STEP of run()", () -> {
            OneBitLoop x = withReel(0, 1, 2, 3);
            x.stage(2, 5, 0);
            due("run", x.run(0, 0, 3), 3);
            traceIs(x, 12, 10);
        });
        edge("without STAGES it is empty then", () -> {
            OneBitLoop x = with(0, 0, 0);
            steps(x, 5);
            x.clear();
            traceIs(x, 10);
            steps(x, 5);
            traceIs(x);
        });
        edge("no other call empties it, or writes there", () -> {
            OneBitLoop x = with(1, 1, 0);
            x.stage(0, 0, 0);
            steps(x, 5, 6);
            x.check();
            x.hold(3, 9);
            x.reach(0, 1, 9);
            x.worst(3, 0, 1);
            traceIs(x, 11, 10, 10);
            x.undo(1);
            traceIs(x, 11, 10, 10);
            x.undo(1);
            traceIs(x, 11, 10, 10);
            x.stage(3, 1, 1);
            traceIs(x, 11, 10, 10);
            x.clear();
            traceIs(x, 11, 10, 10);
        });
        edge("a STEP that is refused does not begin", () -> {
            OneBitLoop x = withReel(0, 1, 2, 3);
            x.stage(2, 5, 0);
            steps(x, 1);
            x.step(END + 1);
            x.step(-END - 1);
            x.run(0, 3, 1);
            x.run(1, 0, 1);
            x.run(0, 0, 0);
            traceIs(x, 12, 10);
            manySteps(x, 299, 0);
            due("full", x.step(0), FULL);
            traceIs(x, 12, 10);
        });
    }

    private static void plainAndLeaky() {
        says("0 PLAIN (10): CAME is x more, TOLD v more, KEPT x less v more.");
        edge("step by step", () -> {
            OneBitLoop x = with(0, 0, 0);
            x.levels(2, -8, 16);
            steps(x, 3);
            stageIs(x, 0, -5, 0, 3, 8, 0, 0);
            steps(x, -4);
            stageIs(x, 0, -1, 0, -1, 0, 0, 0);
            traceIs(x, 10);
        });
        edge("300 STEPS of the ends", () -> {
            OneBitLoop x = with(0, 0, 0);
            manySteps(x, 300, END);
            stageIs(x, 0, 300 * END - 300, 0, 300 * END, 300);
        });
        says("1 LEAKY (11), with a leak 0 .. 256: KEPT times leak by 256, cut toward 0, is LOST (more so) "
            + "and KEPT so much less; then as PLAIN does it (10).");
        edge("a leak of 0", () -> {
            OneBitLoop x = with(1, 0, 0);
            steps(x, 50, 60);
            stageIs(x, 0, 108, 0, 110, 2, 0, 0);
            traceIs(x, 11, 10);
        });
        edge("a leak of 1, 255 kept and 256", () -> {
            OneBitLoop x = with(1, 1, 0);
            steps(x, 256, 2, 0);
            // 255 and 256 were kept, of which 0 and 1 are lost
            stageIs(x, 0, 254, 0, 258, 3, 1, 0);
        });
        edge("a leak of 255", () -> {
            OneBitLoop x = with(1, 255, 0);
            steps(x, 2, 0);
            // of 1 kept none is lost
            stageIs(x, 0, 0, 0, 2, 2, 0);
            x.undo(2);
            steps(x, 257, 0);
            stageIs(x, 0, 0, 0, 257, 2, 255);
        });
        edge("a leak of 256", () -> {
            OneBitLoop x = with(1, 256, 0);
            steps(x, 50, 60);
            stageIs(x, 0, 59, 0, 110, 2, 49, 0);
        });
        edge("cut toward 0 below 0", () -> {
            OneBitLoop x = with(1, 128, 0);
            steps(x, -2);
            stageIs(x, 0, -3, 0, -2, 1, 0);
            steps(x, 0);
            stageIs(x, 0, -1, 0, -2, 0, -1);
        });
        edge("LOST is more, and less again", () -> {
            OneBitLoop x = with(1, 256, 0);
            steps(x, 11, -19, 0);
            // 10 and then -20 were kept
            stageIs(x, 0, 1, 0, -8, 1, -10);
        });
        edge("what is almost GREAT", () -> {
            OneBitLoop x = with(4, 0, 100);
            x.stage(1, 255, 0);
            long ahead = 0;
            long kept = 0;
            long lost = 0;
            for (int t = 0; t < 11; t++) {
                ahead += 101 * END - 1;
                BigInteger part = BigInteger.valueOf(kept).multiply(BigInteger.valueOf(255)).shiftRight(8);
                lost += part.longValue();
                kept += ahead - part.longValue() - 1;
                steps(x, END);
            }
            stageIs(x, 1, kept, 0, x.stageAt(1, 2), 11, lost);
        });
    }

    private static void bounded() {
        says("2 BOUNDED (12), with a bound: as PLAIN (10);");
        edge("within the bound", () -> {
            OneBitLoop x = with(2, 100, 0);
            steps(x, 30, 20);
            stageIs(x, 0, 48, 0, 50, 2, 0, 0);
            traceIs(x, 12, 10);
        });
        says("then, if KEPT is above bound, or below -bound, it becomes that one, CUT is what it was less that more.");
        edge("at the bound", () -> {
            OneBitLoop x = with(2, 5, 0);
            steps(x, 6);
            stageIs(x, 0, 5, 0, 6, 1, 0, 0);
        });
        edge("one above", () -> {
            OneBitLoop x = with(2, 5, 0);
            steps(x, 7);
            stageIs(x, 0, 5, 0, 7, 1, 0, 1);
        });
        edge("at -bound", () -> {
            OneBitLoop x = with(2, 5, 0);
            steps(x, -4);
            stageIs(x, 0, -5, 0, -4, 1, 0, 0);
        });
        edge("one below", () -> {
            OneBitLoop x = with(2, 5, 0);
            steps(x, -5);
            stageIs(x, 0, -5, 0, -5, 1, 0, -1);
        });
        edge("CUT is more, and less again", () -> {
            OneBitLoop x = with(2, 5, 0);
            steps(x, 16, 3, -20);
            // 10 and 2 above, then 11 below
            stageIs(x, 0, -5, 0, -1, 3, 0, 1);
        });
        edge("a bound of 1", () -> {
            OneBitLoop x = with(2, 1, 0);
            steps(x, END);
            stageIs(x, 0, 1, 0, END, 1, 0, END - 2);
        });
        edge("the greatest bound", () -> {
            OneBitLoop x = with(4, 0, 100);
            x.stage(2, DEEP, 0);
            steps(x, END, END, END, END);
            // 101, 202, 303, 404 times END came, less 1, 2, 3, 4, and 1 was told each time
            stageIs(x, 1, DEEP, 0, 1010 * END - 10, 4, 0, 10 * END - 14);
        });
    }

    private static void turning() {
        says("3 TURNING (13), with a bound and a turn 0 .. 256: as BOUNDED (12 and what follows) "
            + "with x less BESIDE times turn by 256 (cut);");
        edge("a turn of 0 is BOUNDED", () -> {
            OneBitLoop x = with(3, 5, 0);
            OneBitLoop y = with(2, 5, 0);
            for (long u : new long[] {4, 3, -30, 2, 9}) {
                due("step", x.step(u), y.step(u));
            }
            for (int what = 0; what < 6; what++) {
                due("stageAt " + what, x.stageAt(0, what), y.stageAt(0, what));
            }
            traceIs(x, 13, 12, 10);
        });
        edge("a turn of 256", () -> {
            OneBitLoop x = with(3, 50, 256);
            steps(x, 11);
            stageIs(x, 0, 10, 10, 11, 1);
            steps(x, 11);
            stageIs(x, 0, 10, 20, 12, 2);
            steps(x, 11);
            stageIs(x, 0, 0, 20, 3, 3);
        });
        edge("cut toward 0 below 0", () -> {
            OneBitLoop x = with(3, 50, 128);
            steps(x, -2);
            stageIs(x, 0, -3, -1, -2, 1);
            steps(x, 0);
            // half of -1 is none
            stageIs(x, 0, -2, -2, -2, 0);
            steps(x, 0);
            stageIs(x, 0, 0, -2, -1, -1);
        });
        edge("it is cut to the bound", () -> {
            OneBitLoop x = with(3, 5, 256);
            steps(x, 6, 7);
            // 5 kept and 5 beside, then 5 + 2 - 1
            stageIs(x, 0, 5, 10, 8, 2, 0, 1);
            steps(x, 0);
            stageIs(x, 0, -5, 5, -2, 3, 0, 0);
            steps(x, -11);
            // -5 - 16 + 1
            stageIs(x, 0, -5, 0, -18, 2, 0, -15);
        });
        says("then BESIDE is KEPT times turn by 256 (cut) more.");
        edge("by what is KEPT behind the cut", () -> {
            OneBitLoop x = with(3, 5, 256);
            steps(x, 100);
            stageIs(x, 0, 5, 5, 100, 1, 0, 94);
        });
        edge("a turn of 1", () -> {
            OneBitLoop x = with(3, 500, 1);
            steps(x, 256);
            stageIs(x, 0, 255, 0);
            steps(x, 2);
            stageIs(x, 0, 256, 1);
        });
        edge("cut toward 0 below 0", () -> {
            OneBitLoop x = with(3, 500, 1);
            steps(x, -254);
            stageIs(x, 0, -255, 0);
            steps(x, -2);
            stageIs(x, 0, -256, -1);
            steps(x, -2);
            stageIs(x, 0, -257, -2);
        });
    }

    private static void fed() {
        says("4 FED (14), with a leak and a factor: as LEAKY (11 and what follows) "
            + "with x and factor times u together.");
        edge("a factor of 0 is LEAKY", () -> {
            OneBitLoop x = with(4, 77, 0);
            OneBitLoop y = with(1, 77, 0);
            for (long u : new long[] {400, 3, -3000, 2, 9}) {
                due("step", x.step(u), y.step(u));
            }
            for (int what = 0; what < 6; what++) {
                due("stageAt " + what, x.stageAt(0, what), y.stageAt(0, what));
            }
            traceIs(x, 14, 11, 10);
        });
        edge("u is that of the STEP, not what the one ahead has KEPT", () -> {
            OneBitLoop x = with(0, 0, 0);
            x.stage(4, 64, -3);
            steps(x, 10);
            stageIs(x, 1, 9 - 30 - 1, 0, -21, 1, 0);
            steps(x, 1);
            // a quarter of -22, cut, is lost
            stageIs(x, 1, -17 + 11 - 3 + 1, 0, -13, 0, -5);
        });
        edge("the ends of a factor and of u", () -> {
            OneBitLoop x = with(4, 256, 100);
            steps(x, END);
            stageIs(x, 0, 101 * END - 1, 0, 101 * END);
            steps(x, -END);
            stageIs(x, 0, -101 * END - 1, 0, 0, 2, 101 * END - 1);
            x = with(4, 256, -100);
            steps(x, END);
            stageIs(x, 0, -99 * END - 1, 0, -99 * END);
            steps(x, -END);
            stageIs(x, 0, 99 * END + 1, 0, 0, 0, -99 * END - 1);
        });
    }

    // ---- GREAT

    /** A FED STAGE that 11 STEPS bring near 2 to the 50, or near that below 0: the outer LEVEL is told but once. */
    private static OneBitLoop nearGreat(int sign, long outer) {
        OneBitLoop x = new OneBitLoop();
        x.levels(2, sign > 0 ? 0 : -outer, outer);
        x.stage(4, 0, 99);
        for (int t = 0; t < 11; t++) {
            steps(x, sign * END);
        }
        stageIs(x, 0, sign * (1100 * END - 10 * outer));
        return x;
    }

    private static void greatKept() {
        says("GREAT: a STEP by which KEPT,");
        for (int sign : new int[] {1, -1}) {
            edge("KEPT of 2 to the 50 less 1, times " + sign, () -> {
                OneBitLoop x = nearGreat(sign, 7);
                // 100 times it, less 77, is what is missing
                steps(x, sign * 258999068427L);
                stageIs(x, 0, sign * (HUGE - 1));
            });
            edge("KEPT of 2 to the 50, times " + sign, () -> {
                OneBitLoop x = nearGreat(sign, 16);
                due("step", x.step(sign * 258999068428L), GREAT);
            });
            edge("KEPT of more, times " + sign, () -> {
                due("step", nearGreat(sign, 16).step(sign * 258999068429L), GREAT);
                due("step", nearGreat(sign, 16).step(sign * END), GREAT);
            });
        }
        edge("of the first STAGE alone", () -> {
            OneBitLoop x = with(4, 0, 100);
            x.stage(2, 1, 0);
            manySteps(x, 11, END);
            due("step", x.step(END), GREAT);
            due("the other way", x.step(-END) >= 0);
        });
        edge("of the last of five alone", () -> {
            OneBitLoop x = new OneBitLoop();
            for (int s = 0; s < 4; s++) {
                x.stage(2, 1, 0);
            }
            x.stage(4, 0, 100);
            manySteps(x, 11, END);
            due("step", x.step(END), GREAT);
        });
        edge("a bound keeps KEPT from it", () -> {
            OneBitLoop x = with(4, 0, 100);
            x.stage(2, DEEP, 0);
            manySteps(x, 11, END);
            stageIs(x, 1, DEEP);
        });
        edge("a ledger may be so", () -> {
            OneBitLoop x = with(4, 256, 100);
            x.stage(2, 1, 0);
            manySteps(x, 12, END);
            due("came", x.stageAt(0, 2) >= HUGE);
            due("lost", x.stageAt(0, 4) < HUGE);
            manySteps(x, 1, END);
            due("lost", x.stageAt(0, 4) >= HUGE);
            due("cut", x.stageAt(1, 5) >= HUGE);
        });
    }

    /**
     * What is BESIDE grows by 2 to the 42 with each STEP, for KEPT is cut to 2 to the 46 and turned by a
     * 16th; of the 256th STEP it is 2 to the 50, unless KEPT is a bit less: with the LEVEL 20 it can be.
     */
    private static OneBitLoop nearGreatBeside(int sign) {
        OneBitLoop x = new OneBitLoop();
        x.levels(2, sign > 0 ? 19 : -20, 1);
        x.stage(4, 256, 100);
        x.stage(3, 1L << 46, 16);
        manySteps(x, 255, sign * END);
        stageIs(x, 1, sign * (1L << 46), sign * 255 * (1L << 42));
        return x;
    }

    private static void greatBeside() {
        says("BESIDE of a STAGE would be 2 to the 50 or more, or that below 0,");
        for (int sign : new int[] {1, -1}) {
            edge("2 to the 50 less 1, times " + sign, () -> {
                OneBitLoop x = nearGreatBeside(sign);
                steps(x, sign * 693998675948L);
                stageIs(x, 1, sign * ((1L << 46) - 12), sign * (HUGE - 1));
            });
            edge("2 to the 50, times " + sign, () -> {
                OneBitLoop x = nearGreatBeside(sign);
                due("step", x.step(sign * 693998675949L), GREAT);
                due("step", x.step(sign * END), GREAT);
            });
        }
        edge("of a STAGE that is not the last", () -> {
            OneBitLoop x = with(4, 256, 100);
            x.stage(3, 1L << 46, 16);
            x.stage(2, 1, 0);
            manySteps(x, 255, END);
            due("step", x.step(END), GREAT);
        });
    }

    private static void greatIsNotDone() {
        says("is not done: all is as ahead of it (THE TRACE, SEED, too).");
        edge("THE RECORD, STAGES, SEED", () -> {
            OneBitLoop x = with(4, 0, 100);
            x.lot(3, 77);
            manySteps(x, 11, END);
            long seed = 77;
            for (int t = 0; t < 11; t++) {
                seed = nextSeed(seed);
            }
            digestIs(x, seed);
            due("step", x.step(END), GREAT);
            due("again", x.step(END), GREAT);
            due("count", x.count(2), 11);
            digestIs(x, seed);
            due("check", x.check(), NONE);
        });
        edge("each number of each STAGE, those that took ahead of it too", () -> {
            OneBitLoop x = with(3, 9, 200);
            x.stage(1, 9, 0);
            x.stage(2, 5, 0);
            x.stage(4, 0, 100);
            manySteps(x, 11, END);
            long[] was = new long[28];
            for (int k = 0; k < 28; k++) {
                was[k] = x.stageAt(k / 7, k % 7);
            }
            due("step", x.step(END), GREAT);
            for (int k = 0; k < 28; k++) {
                due("stageAt(" + k / 7 + ", " + k % 7 + ")", x.stageAt(k / 7, k % 7), was[k]);
            }
        });
        edge("THE TRACE", () -> {
            OneBitLoop x = with(4, 0, 100);
            x.stage(2, 1, 0);
            manySteps(x, 11, END);
            traceIs(x, 14, 11, 10, 12, 10);
            due("step", x.step(END), GREAT);
            traceIs(x, 14, 11, 10, 12, 10);
        });
        edge("what comes then goes on as without it", () -> {
            OneBitLoop x = with(4, 0, 100);
            OneBitLoop y = with(4, 0, 100);
            for (OneBitLoop z : new OneBitLoop[] {x, y}) {
                z.levels(9, -4, 1);
                z.lot(1000000000, 99);
                manySteps(z, 11, END);
            }
            due("step", x.step(END), GREAT);
            for (long u : new long[] {-END, 5, -END, -END}) {
                due("step", x.step(u), y.step(u));
            }
            due("digest", x.digest(), y.digest());
        });
    }

    private static void theRecord() {
        says("THE RECORD has 300 STEPS at most:");
        edge("300 by step()", () -> {
            OneBitLoop x = new OneBitLoop();
            for (int t = 0; t < 300; t++) {
                due("step " + t, x.step(0), 1);
            }
            due("one more", x.step(0), FULL);
            due("count", x.count(2), 300);
        });
        edge("300 by run()", () -> {
            OneBitLoop x = new OneBitLoop();
            manySteps(x, 300, 0);
            due("one more", x.run(5, 0, 1), FULL);
            due("count", x.count(2), 300);
        });
        edge("room again", () -> {
            OneBitLoop x = new OneBitLoop();
            manySteps(x, 300, 0);
            x.undo(1);
            due("one more", x.step(7), 1);
            recordIs(x, 299, 7, 1);
            due("and no other", x.step(7), FULL);
        });
        says("of each the SAMPLE, the LEVEL, what each STAGE has KEPT behind it.");
        edge("without STAGES", () -> {
            OneBitLoop x = new OneBitLoop();
            steps(x, 5);
            recordIs(x, 0, 5, 1, LEAST);
        });
        edge("five STAGES", () -> {
            OneBitLoop x = new OneBitLoop();
            for (int s = 0; s < 5; s++) {
                x.stage(0, 0, 0);
            }
            steps(x, 10, -1);
            recordIs(x, 0, 10, 1, 9, 8, 7, 6, 5, LEAST);
            recordIs(x, 1, -1, 1, x.stageAt(0, 0), x.stageAt(1, 0), x.stageAt(2, 0), x.stageAt(3, 0),
                x.stageAt(4, 0), LEAST);
        });
        edge("the 300th", () -> {
            OneBitLoop x = with(0, 0, 0);
            x.levels(2, 0, 5);
            manySteps(x, 299, 0);
            steps(x, -END);
            recordIs(x, 299, -END, 0, -END, LEAST);
            recordIs(x, 298, 0, 0, 0, LEAST);
        });
    }
}
