/** The sentences of promises 8 to 15: the calls that make THE LOOP and its STEPS. */
public final class LoopCallEdgesTest extends Edges {
    private static final int[] FAR = {LEAST_INT, MOST_INT};

    public static void main(String[] args) {
        stage();
        levels();
        level();
        lot();
        step();
        run();
        runIsStopped();
        undo();
        clear();
        end();
    }

    // ---- promise 8

    private static void stageIs(int kind, long a, int b, int want) {
        OneBitLoop x = new OneBitLoop();
        due("stage(" + kind + ", " + a + ", " + b + ")", x.stage(kind, a, b), want);
        due("stages", x.count(0), want == 0 ? 1 : 0);
    }

    private static void stage() {
        promise(8);
        says("A STAGE more: its number.");
        edge("0 to 4", () -> {
            OneBitLoop x = new OneBitLoop();
            for (int s = 0; s < 5; s++) {
                due("stage", x.stage(4 - s, s == 4 ? 0 : 1, 0), s);
                due("count", x.count(0), s + 1);
                due("kind", x.stageAt(s, 6), 4 - s);
            }
        });
        says("a: leak (KINDS 1, 4),");
        for (int kind : new int[] {1, 4}) {
            for (long a : new long[] {0, 1, 255, 256}) {
                edge("KIND " + kind + ", leak " + a, () -> stageIs(kind, a, 0, 0));
            }
            for (long a : new long[] {-1, 257, 1L << 32, (1L << 32) + 5, LEAST, MOST}) {
                edge("KIND " + kind + ", no leak " + a, () -> stageIs(kind, a, 0, BAD));
            }
        }
        says("bound (2, 3; 1 to 1000000000000000),");
        for (int kind : new int[] {2, 3}) {
            for (long a : new long[] {1, 2, DEEP - 1, DEEP}) {
                edge("KIND " + kind + ", bound " + a, () -> stageIs(kind, a, 0, 0));
            }
            for (long a : new long[] {0, -1, -DEEP, DEEP + 1, LEAST, MOST}) {
                edge("KIND " + kind + ", no bound " + a, () -> stageIs(kind, a, 0, BAD));
            }
        }
        says("b: turn (3),");
        for (int b : new int[] {0, 1, 255, 256}) {
            edge("turn " + b, () -> stageIs(3, 1, b, 0));
        }
        for (int b : new int[] {-1, 257, LEAST_INT, MOST_INT}) {
            edge("no turn " + b, () -> stageIs(3, 1, b, BAD));
        }
        says("factor (4; -100 to 100);");
        for (int b : new int[] {-100, -99, 0, 99, 100}) {
            edge("factor " + b, () -> stageIs(4, 0, b, 0));
        }
        for (int b : new int[] {-101, 101, LEAST_INT, MOST_INT}) {
            edge("no factor " + b, () -> stageIs(4, 0, b, BAD));
        }
        says("what does not count is 0.");
        edge("of PLAIN", () -> {
            stageIs(0, 0, 0, 0);
            stageIs(0, 1, 0, BAD);
            stageIs(0, -1, 0, BAD);
            stageIs(0, 1L << 32, 0, BAD);
            stageIs(0, 0, 1, BAD);
            stageIs(0, 0, -1, BAD);
        });
        for (int kind : new int[] {1, 2}) {
            edge("b of KIND " + kind, () -> {
                stageIs(kind, 1, 1, BAD);
                stageIs(kind, 1, -1, BAD);
                stageIs(kind, 1, LEAST_INT, BAD);
            });
        }
        says("BAD;");
        for (int kind : new int[] {-1, 5, LEAST_INT, MOST_INT}) {
            edge("KIND " + kind, () -> stageIs(kind, 0, 0, BAD));
            edge("KIND " + kind + " with a leak or a bound", () -> stageIs(kind, 1, 0, BAD));
        }
        edge("ahead of STATE", () -> {
            OneBitLoop x = new OneBitLoop();
            steps(x, 1);
            due("kind", x.stage(5, 0, 0), BAD);
            due("bound", x.stage(2, 0, 0), BAD);
        });
        edge("ahead of FULL", () -> {
            OneBitLoop x = fiveStages();
            due("kind", x.stage(5, 0, 0), BAD);
            due("leak", x.stage(1, 257, 0), BAD);
        });
        says("STATE: THE RECORD is not empty;");
        edge("one STEP", () -> {
            OneBitLoop x = with(0, 0, 0);
            steps(x, 1);
            due("stage", x.stage(0, 0, 0), STATE);
            due("count", x.count(0), 1);
            x.undo(1);
            due("empty again", x.stage(0, 0, 0), 1);
        });
        edge("a STEP without STAGES", () -> {
            OneBitLoop x = new OneBitLoop();
            steps(x, 1);
            due("stage", x.stage(0, 0, 0), STATE);
            x.clear();
            due("empty again", x.stage(0, 0, 0), 0);
        });
        edge("ahead of FULL", () -> {
            OneBitLoop x = fiveStages();
            steps(x, 1);
            due("stage", x.stage(0, 0, 0), STATE);
        });
        says("FULL.");
        edge("the sixth", () -> {
            OneBitLoop x = fiveStages();
            due("stage", x.stage(4, 256, 100), FULL);
            due("count", x.count(0), 5);
            x.clear();
            due("room again", x.stage(4, 256, 100), 0);
        });
    }

    private static OneBitLoop fiveStages() {
        OneBitLoop x = new OneBitLoop();
        for (int s = 0; s < 5; s++) {
            due("stage", x.stage(0, 0, 0), s);
        }
        return x;
    }

    // ---- promises 9 to 11

    private static void levels() {
        promise(9);
        says("LEVELS are n (2 to 16), evenly from low by steps of gap (1 to 1000000000): 1.");
        edge("2 by 1", () -> {
            OneBitLoop x = new OneBitLoop();
            due("levels", x.levels(2, -7, 1), 1);
            levelsAre(x, -7, -6);
        });
        edge("16 by the greatest gap", () -> {
            OneBitLoop x = new OneBitLoop();
            due("levels", x.levels(16, -7, 1000000000), 1);
            due("count", x.count(1), 16);
            for (int k = 0; k < 16; k++) {
                due("level " + k, x.levelAt(k), -7 + k * 1000000000L);
            }
        });
        edge("fewer than there were", () -> {
            OneBitLoop x = new OneBitLoop();
            x.levels(16, 0, 1);
            due("levels", x.levels(3, 0, 5), 1);
            levelsAre(x, 0, 5, 10);
            due("no LEVEL 3", x.levelAt(3), LEAST);
            due("the highest", x.step(15), 2);
        });
        for (int n : new int[] {-1, 0, 1, 17, LEAST_INT, MOST_INT}) {
            edge("n " + n, () -> notLaid(n, 0, 1));
        }
        for (long gap : new long[] {0, -1, 1000000001, 1L << 32, (1L << 32) + 1, LEAST, MOST}) {
            edge("gap " + gap, () -> notLaid(2, 0, gap));
        }
        says("BAD: also a LEVEL that is not -1000000000000 to 1000000000000;");
        edge("the lowest", () -> {
            due("the end", new OneBitLoop().levels(2, -END, 1), 1);
            notLaid(2, -END - 1, 1);
            notLaid(16, -END - 1, 1000000000);
        });
        edge("the highest", () -> {
            due("the end", new OneBitLoop().levels(2, END - 1, 1), 1);
            notLaid(2, END, 1);
            due("the end", new OneBitLoop().levels(16, END - 15, 1), 1);
            notLaid(16, END - 14, 1);
            due("the end", new OneBitLoop().levels(16, END - 15000000000L, 1000000000), 1);
            notLaid(16, END - 14999999999L, 1000000000);
        });
        edge("what would wrap", () -> {
            notLaid(2, MOST, 1);
            notLaid(16, MOST, 1000000000);
            notLaid(16, LEAST, 1000000000);
        });
        edge("ahead of STATE", () -> {
            OneBitLoop x = new OneBitLoop();
            steps(x, 0);
            due("n", x.levels(1, 0, 1), BAD);
            due("gap", x.levels(2, 0, 0), BAD);
            due("low", x.levels(2, -END - 1, 1), BAD);
            due("high", x.levels(2, END, 1), BAD);
        });
        says("STATE: THE RECORD is not empty.");
        edge("one STEP", () -> {
            OneBitLoop x = new OneBitLoop();
            steps(x, 0);
            due("levels", x.levels(2, 0, 1), STATE);
            levelsAre(x, -1, 1);
            x.undo(1);
            due("empty again", x.levels(2, 0, 1), 1);
            levelsAre(x, 0, 1);
        });
        edge("a STAGE alone is none", () -> due("levels", with(0, 0, 0).levels(2, 0, 1), 1));
    }

    private static void notLaid(int n, long low, long gap) {
        OneBitLoop x = new OneBitLoop();
        due("levels(" + n + ", " + low + ", " + gap + ")", x.levels(n, low, gap), BAD);
        levelsAre(x, -1, 1);
    }

    private static OneBitLoop threeLevels() {
        OneBitLoop x = new OneBitLoop();
        due("levels", x.levels(3, 0, 10), 1);
        return x;
    }

    private static void level() {
        promise(10);
        says("LEVEL k (of those there are, as they rise) is another one: 1.");
        edge("the first, one within, the last", () -> {
            OneBitLoop x = threeLevels();
            due("0", x.level(0, -5), 1);
            due("1", x.level(1, 7), 1);
            due("2", x.level(2, 100), 1);
            levelsAre(x, -5, 7, 100);
        });
        edge("it is told from then on", () -> {
            OneBitLoop x = threeLevels();
            x.level(2, 100);
            due("near to 10", x.step(54), 1);
            due("near to 100", x.step(55), 2);
            recordIs(x, 1, 55, 100);
        });
        edge("the same again", () -> due("1", threeLevels().level(1, 10), 1));
        for (int k : new int[] {-1, 3, 15, 16, LEAST_INT, MOST_INT}) {
            edge("no LEVEL " + k, () -> notAnother(threeLevels(), k, 50));
        }
        edge("the 16th, and no 17th", () -> {
            OneBitLoop x = new OneBitLoop();
            x.levels(16, 0, 1);
            due("15", x.level(15, 99), 1);
            due("16", x.level(16, 100), BAD);
        });
        edge("of those there are no more", () -> {
            OneBitLoop x = new OneBitLoop();
            x.levels(16, 0, 1);
            x.levels(2, 0, 1);
            notAnother(x, 2, 5);
            due("none is above", x.level(1, 99), 1);
        });
        says("BAD: also where they would not rise,");
        edge("one below the next, as it, above it", () -> {
            due("below", threeLevels().level(1, 19), 1);
            notAnother(threeLevels(), 1, 20);
            notAnother(threeLevels(), 1, 21);
        });
        edge("one above the one ahead, as it, below it", () -> {
            due("above", threeLevels().level(1, 1), 1);
            notAnother(threeLevels(), 1, 0);
            notAnother(threeLevels(), 1, -1);
        });
        edge("the first has none ahead, the last none behind", () -> {
            due("first", threeLevels().level(0, -END), 1);
            due("last", threeLevels().level(2, END), 1);
            notAnother(threeLevels(), 0, 10);
            notAnother(threeLevels(), 2, 10);
        });
        says("or as levels();");
        edge("the ends", () -> {
            notAnother(threeLevels(), 0, -END - 1);
            notAnother(threeLevels(), 2, END + 1);
            notAnother(threeLevels(), 0, LEAST);
            notAnother(threeLevels(), 2, MOST);
        });
        edge("ahead of STATE", () -> {
            OneBitLoop x = threeLevels();
            steps(x, 0);
            notAnother(x, 3, 50);
            notAnother(x, 1, 20);
            notAnother(x, 2, END + 1);
        });
        says("STATE.");
        edge("THE RECORD is not empty", () -> {
            OneBitLoop x = threeLevels();
            steps(x, 0);
            due("level", x.level(1, 11), STATE);
            due("the same", x.level(1, 10), STATE);
            levelsAre(x, 0, 10, 20);
            x.undo(1);
            due("empty again", x.level(1, 11), 1);
        });
    }

    private static void notAnother(OneBitLoop x, int k, long v) {
        long was = x.digest();
        due("level(" + k + ", " + v + ")", x.level(k, v), BAD);
        due("they stay", x.digest(), was);
    }

    private static void lot() {
        promise(11);
        says("SPAN (0 to 1000000000) and SEED: 1.");
        for (long seed : new long[] {0, 1, -1, LEAST, MOST}) {
            edge("SEED " + seed, () -> {
                OneBitLoop x = new OneBitLoop();
                due("lot", x.lot(5, seed), 1);
                digestIs(x, seed);
            });
        }
        edge("SPAN 0", () -> {
            OneBitLoop x = new OneBitLoop();
            x.lot(9, 1);
            due("lot", x.lot(0, 1), 1);
            steps(x, 0);
            digestIs(x, 1);
        });
        edge("SPAN 1", () -> {
            OneBitLoop x = new OneBitLoop();
            due("lot", x.lot(1, 1), 1);
            steps(x, 0);
            digestIs(x, nextSeed(1));
        });
        edge("the greatest SPAN", () -> {
            OneBitLoop x = new OneBitLoop();
            due("lot", x.lot(1000000000, 1), 1);
            steps(x, 0);
            digestIs(x, nextSeed(1));
        });
        edge("the latest counts", () -> {
            OneBitLoop x = new OneBitLoop();
            x.lot(7, 3);
            due("lot", x.lot(0, 4), 1);
            digestIs(x, 4);
            due("span", x.stage(0, 0, 0), 0);
            due("worst", x.worst(1, 0, 0), 1);
        });
        says("BAD;");
        for (int span : new int[] {-1, 1000000001, LEAST_INT, MOST_INT}) {
            edge("SPAN " + span, () -> {
                OneBitLoop x = new OneBitLoop();
                x.lot(2, 7);
                due("lot", x.lot(span, 8), BAD);
                digestIs(x, 7);
                steps(x, 0);
                digestIs(x, nextSeed(7));
            });
        }
        edge("ahead of STATE", () -> {
            OneBitLoop x = new OneBitLoop();
            steps(x, 0);
            due("lot", x.lot(-1, 8), BAD);
        });
        says("STATE: THE RECORD is not empty.");
        edge("one STEP", () -> {
            OneBitLoop x = new OneBitLoop();
            x.lot(2, 7);
            steps(x, 0);
            due("lot", x.lot(0, 8), STATE);
            digestIs(x, nextSeed(7));
            x.clear();
            digestIs(x, 7);
            due("empty again", x.lot(0, 8), 1);
            digestIs(x, 8);
        });
        edge("gone back over", () -> {
            OneBitLoop x = new OneBitLoop();
            x.lot(2, 7);
            steps(x, 0, 0);
            x.undo(2);
            due("empty again", x.lot(2, 9), 1);
            steps(x, 0);
            digestIs(x, nextSeed(9));
            x.undo(1);
            digestIs(x, 9);
        });
    }

    // ---- promises 12 and 13

    private static void step() {
        promise(12);
        says("A STEP with a SAMPLE (-1000000000000 to 1000000000000): the number of its LEVEL.");
        edge("the ends", () -> {
            OneBitLoop x = new OneBitLoop();
            due("low", x.step(-END), 0);
            due("high", x.step(END), 1);
            recordIs(x, 0, -END, -1);
            recordIs(x, 1, END, 1);
        });
        edge("the number, not the LEVEL", () -> {
            OneBitLoop x = new OneBitLoop();
            x.levels(16, -1600, 100);
            for (int k = 0; k < 16; k++) {
                due("step", x.step(-1600 + 100 * k), k);
                recordIs(x, k, -1600 + 100 * k, -1600 + 100 * k);
            }
        });
        says("BAD;");
        for (long u : new long[] {END + 1, -END - 1, LEAST, MOST}) {
            edge("SAMPLE " + u, () -> {
                OneBitLoop x = with(0, 0, 0);
                due("step", x.step(u), BAD);
                due("count", x.count(2), 0);
                digestIs(x, 0);
            });
        }
        edge("ahead of FULL", () -> {
            OneBitLoop x = new OneBitLoop();
            manySteps(x, 300, 0);
            due("step", x.step(END + 1), BAD);
        });
        says("FULL: THE RECORD has 300;");
        edge("the 300th and one more", () -> {
            OneBitLoop x = with(0, 0, 0);
            manySteps(x, 299, 0);
            due("300th", x.step(0), 0);
            long was = x.digest();
            due("one more", x.step(0), FULL);
            due("nothing is changed", x.digest(), was);
        });
        edge("ahead of GREAT", () -> {
            OneBitLoop x = with(4, 0, 100);
            manySteps(x, 11, END);
            due("great", x.step(END), GREAT);
            manySteps(x, 289, 0);
            due("full", x.step(END), FULL);
        });
        says("GREAT.");
        edge("the twelfth", () -> {
            OneBitLoop x = with(4, 0, 100);
            manySteps(x, 11, END);
            due("step", x.step(END), GREAT);
            due("count", x.count(2), 11);
        });
    }

    private static void run() {
        promise(13);
        says("n STEPS (1 to 300) with SAMPLES of a REEL from item i on: how many STEPS THE RECORD has.");
        edge("one", () -> {
            OneBitLoop x = withReel(0, 4, 5, 6);
            due("first", x.run(0, 0, 1), 1);
            due("last", x.run(0, 2, 1), 2);
            recordIs(x, 0, 4);
            recordIs(x, 1, 6);
        });
        edge("all, behind others", () -> {
            OneBitLoop x = withReel(0, 4, 5, 6);
            steps(x, 9, 9);
            due("run", x.run(0, 0, 3), 5);
            recordIs(x, 2, 4);
            recordIs(x, 4, 6);
        });
        edge("60", () -> {
            OneBitLoop x = new OneBitLoop();
            x.reel(3, 1, 60);
            due("run", x.run(3, 0, 60), 60);
        });
        edge("300 are asked for, and done as far as there are items", () -> {
            OneBitLoop x = withReel(0, 4, 5, 6);
            due("run", x.run(0, 0, 300), INDEX);
            due("count", x.count(2), 3);
        });
        edge("as step() makes them", () -> {
            OneBitLoop x = withReel(1, 40, -7, 3);
            OneBitLoop y = new OneBitLoop();
            for (OneBitLoop z : new OneBitLoop[] {x, y}) {
                z.stage(3, 50, 99);
                z.stage(4, 9, -3);
                z.lot(4, 8);
            }
            due("run", x.run(0, 0, 3), 3);
            steps(y, 40, -7, 3);
            due("digest", x.digest(), y.digest());
        });
        edge("of what is no number the one just made", () -> {
            OneBitLoop x = withReel(4, 0xFFFFFFFFL, 0x40A00000L, 0xFFFFFFFFL, 0xC0C00000L, 0xFFFFFFFFL);
            due("run", x.run(0, 0, 5), 5);
            long[] want = {0, 5, 5, -6, -6};
            for (int t = 0; t < 5; t++) {
                recordIs(x, t, want[t]);
            }
        });
        says("BAD;");
        for (int r : new int[] {-1, 6, LEAST_INT, MOST_INT}) {
            edge("REEL " + r, () -> notRun(withReel(0, 4), r, 0, 1, BAD, 0, 0));
        }
        for (int n : new int[] {0, -1, 301, LEAST_INT, MOST_INT}) {
            edge("n " + n, () -> notRun(withReel(0, 4), 0, 0, n, BAD, 0, 0));
            edge("ahead of NULL, n " + n, () -> notRun(withReel(0, 4), 1, 0, n, BAD, 0, 0));
            edge("ahead of INDEX, n " + n, () -> notRun(withReel(0, 4), 0, -1, n, BAD, 0, 0));
        }
    }

    /** A run() that is refused, with how many STEPS there are then, and the FINDING. */
    private static void notRun(OneBitLoop x, int r, int i, int n, int want, int steps, int finding) {
        due("run(" + r + ", " + i + ", " + n + ")", x.run(r, i, n), want);
        due("count(2)", x.count(2), steps);
        due("count(4)", x.count(4), finding);
    }

    private static OneBitLoop fullOf(long... items) {
        OneBitLoop x = new OneBitLoop();
        manySteps(x, 300, 0);
        fill(x, 0, 0, items);
        return x;
    }

    private static void runIsStopped() {
        says("then of each STEP: NULL,");
        edge("a REEL that is LOST", () -> notRun(withReel(0, 4), 1, 0, 1, NULL, 0, 1));
        edge("ahead of INDEX", () -> notRun(withReel(0, 4), 1, -1, 1, NULL, 0, 1));
        edge("ahead of FULL", () -> notRun(fullOf(1), 1, 0, 1, NULL, 300, 1));
        says("INDEX,");
        for (int i : new int[] {-1, 1, 60, LEAST_INT, MOST_INT}) {
            edge("from item " + i, () -> notRun(withReel(0, 4), 0, i, 1, INDEX, 0, 2));
        }
        for (int i : FAR) {
            edge("300 from item " + i, () -> notRun(withReel(0, 4), 0, i, 300, INDEX, 0, 2));
        }
        edge("from below 0 up to what is there", () -> notRun(withReel(0, 4), 0, -1, 2, INDEX, 0, 2));
        edge("a row of no items", () -> notRun(withReel(0), 0, 0, 1, INDEX, 0, 2));
        edge("ahead of FULL", () -> notRun(fullOf(1, 2), 0, 2, 1, INDEX, 300, 2));
        edge("ahead of GREAT", () -> {
            OneBitLoop x = with(4, 0, 100);
            manySteps(x, 11, END);
            notRun(x, 5, 60, 1, INDEX, 11, 2);
        });
        says("FULL,");
        edge("the 301st", () -> {
            notRun(fullOf(1), 0, 0, 1, FULL, 300, 0);
            notRun(fullOf(1, 2), 0, 0, 2, FULL, 300, 0);
        });
        edge("ahead of GREAT", () -> {
            OneBitLoop x = with(4, 0, 100);
            manySteps(x, 289, 0);
            manySteps(x, 11, END);
            notRun(x, 5, 0, 1, FULL, 300, 0);
        });
        says("GREAT:");
        edge("the twelfth", () -> {
            OneBitLoop x = with(4, 0, 100);
            manySteps(x, 11, END);
            notRun(x, 5, 0, 1, GREAT, 11, 0);
        });
        says("those ahead are done.");
        edge("INDEX", () -> {
            OneBitLoop x = withReel(0, 4, 5);
            steps(x, 9);
            notRun(x, 0, 1, 2, INDEX, 2, 2);
            recordIs(x, 1, 5);
        });
        edge("FULL", () -> {
            OneBitLoop x = withReel(0, 4, 5, 6);
            manySteps(x, 298, 0);
            notRun(x, 0, 0, 3, FULL, 300, 0);
            recordIs(x, 298, 4);
            recordIs(x, 299, 5);
        });
        edge("GREAT", () -> {
            OneBitLoop x = withReel(3, 1, 2, END, 4);
            x.stage(4, 0, 100);
            manySteps(x, 11, END);
            notRun(x, 0, 0, 4, GREAT, 13, 0);
            recordIs(x, 12, 2);
            due("check", x.check(), NONE);
            due("the others are not done", x.run(0, 3, 1), 14);
        });
        edge("with INDEX, what is no number has the latest of them", () -> {
            OneBitLoop x = withReel(5, 0x4014000000000000L, -1);
            notRun(x, 0, 0, 3, INDEX, 2, 2);
            due("sample", x.sample(0, 1), 5);
        });
    }

    // ---- promises 14 and 15

    private static OneBitLoop rich() {
        OneBitLoop x = new OneBitLoop();
        x.stage(3, 40, 77);
        x.stage(4, 9, 2);
        x.stage(2, 100, 0);
        x.levels(5, -20, 9);
        x.lot(3, 99);
        return x;
    }

    private static long sampleOfRich(int t) {
        return t * 37 % 53 - 20;
    }

    private static void undo() {
        promise(14);
        says("The latest n STEPS (0 to how many there are) are gone back over:");
        edge("none", () -> {
            OneBitLoop x = rich();
            due("of none", x.undo(0), 0);
            steps(x, 1, 2);
            long was = x.digest();
            due("of two", x.undo(0), 2);
            due("nothing is changed", x.digest(), was);
        });
        edge("all", () -> {
            OneBitLoop x = rich();
            long was = x.digest();
            steps(x, 1, 2, 3);
            due("undo", x.undo(3), 0);
            due("as at first", x.digest(), was);
        });
        edge("all of 300", () -> {
            OneBitLoop x = rich();
            long was = x.digest();
            manySteps(x, 300, 5);
            due("undo", x.undo(300), 0);
            due("as at first", x.digest(), was);
        });
        says("THE LOOP, its SEED, ledgers are as ahead of these,");
        edge("each of twenty", () -> {
            long[] digests = new long[21];
            OneBitLoop x = rich();
            for (int t = 0; t < 20; t++) {
                digests[t] = x.digest();
                steps(x, sampleOfRich(t));
            }
            for (int left = 19; left >= 0; left--) {
                due("undo", x.undo(1), left);
                due("digest of " + left, x.digest(), digests[left]);
            }
        });
        edge("it goes on from there as it did", () -> {
            OneBitLoop x = rich();
            int[] told = new int[20];
            for (int t = 0; t < 20; t++) {
                told[t] = x.step(sampleOfRich(t));
            }
            long was = x.digest();
            due("undo", x.undo(13), 7);
            for (int t = 7; t < 20; t++) {
                due("step " + t, x.step(sampleOfRich(t)), told[t]);
            }
            due("digest", x.digest(), was);
            due("check", x.check(), NONE);
        });
        edge("what was forged does not count", () -> {
            OneBitLoop x = rich();
            OneBitLoop y = rich();
            for (int t = 0; t < 6; t++) {
                steps(x, sampleOfRich(t));
                steps(y, sampleOfRich(t));
            }
            for (int what = 0; what < 5; what++) {
                due("forge", x.forge(2, what, 1000 + what), 1);
            }
            x.undo(2);
            y.undo(2);
            for (int s = 0; s < 3; s++) {
                for (int what = 0; what < 7; what++) {
                    due("stageAt(" + s + ", " + what + ")", x.stageAt(s, what), y.stageAt(s, what));
                }
            }
            due("it goes on so", x.step(9), y.step(9));
        });
        edge("a forged SAMPLE that would be GREAT", () -> {
            OneBitLoop x = with(4, 0, 100);
            manySteps(x, 11, END);
            steps(x, 0, 0);
            due("forge", x.forge(11, 0, END), 1);
            due("undo", x.undo(1), 12);
            stageIs(x, 0, 1111 * END - 12);
        });
        says("THE RECORD has the others, as they stand: how many are left.");
        edge("those behind are gone", () -> {
            OneBitLoop x = rich();
            steps(x, 5, 6, 7);
            due("undo", x.undo(2), 1);
            due("count", x.count(2), 1);
            recordIs(x, 0, 5);
            due("no STEP 1", x.record(1, 0), LEAST);
        });
        edge("forged as they are", () -> {
            OneBitLoop x = rich();
            steps(x, 5, 6, 7);
            x.forge(1, 0, 66);
            x.forge(1, 1, 67);
            x.forge(1, 4, 68);
            due("undo", x.undo(1), 2);
            due("sample", x.record(1, 0), 66);
            due("level", x.record(1, 1), 67);
            due("kept", x.record(1, 4), 68);
        });
        edge("what was forged of those that are gone is gone", () -> {
            OneBitLoop x = rich();
            steps(x, 5, 6);
            x.forge(1, 0, 66);
            x.undo(1);
            steps(x, 6);
            due("sample", x.record(1, 0), 6);
            due("check", x.check(), NONE);
        });
        says("BAD.");
        for (int n : new int[] {-1, 4, LEAST_INT, MOST_INT}) {
            edge("n " + n + " of 3", () -> {
                OneBitLoop x = rich();
                steps(x, 5, 6, 7);
                long was = x.digest();
                due("undo", x.undo(n), BAD);
                due("nothing is changed", x.digest(), was);
            });
        }
        edge("1 of none", () -> due("undo", rich().undo(1), BAD));
        edge("301 of 300", () -> {
            OneBitLoop x = new OneBitLoop();
            manySteps(x, 300, 5);
            due("undo", x.undo(301), BAD);
            due("undo", x.undo(300), 0);
        });
    }

    private static void clear() {
        promise(15);
        says("No STAGES;");
        edge("none, and five", () -> {
            OneBitLoop x = new OneBitLoop();
            x.clear();
            due("of none", x.count(0), 0);
            x = fiveStages();
            x.clear();
            due("of five", x.count(0), 0);
            due("no STAGE 0", x.stageAt(0, 0), LEAST);
            due("the first", x.stage(0, 0, 0), 0);
        });
        edge("new ones have nothing of the old", () -> {
            OneBitLoop x = rich();
            steps(x, 500, -500, 70);
            x.clear();
            for (int s = 0; s < 5; s++) {
                x.stage(3, 40, 77);
                stageIs(x, s, 0, 0, 0, 0, 0, 0, 3);
            }
        });
        says("THE RECORD is empty;");
        edge("no STEP", () -> {
            OneBitLoop x = rich();
            steps(x, 5, 6);
            x.clear();
            due("count", x.count(2), 0);
            due("record", x.record(0, 0), LEAST);
            due("undo", x.undo(1), BAD);
            due("levels", x.levels(2, 0, 1), 1);
        });
        says("LEVELS, SPAN, SEED stay as they were ahead of the first STEP:");
        edge("LEVELS", () -> {
            OneBitLoop x = rich();
            x.level(4, 100);
            steps(x, 5, 6);
            x.clear();
            levelsAre(x, -20, -11, -2, 7, 100);
        });
        edge("SPAN", () -> {
            OneBitLoop x = rich();
            steps(x, 5);
            x.clear();
            x.stage(0, 0, 0);
            due("worst", x.worst(1, 0, 0), LEAST);
            due("why", x.count(5), NOT);
            steps(x, 5);
            digestIs(x, nextSeed(99));
        });
        edge("SEED", () -> {
            OneBitLoop x = rich();
            steps(x, 5, 6, 7);
            x.clear();
            digestIs(x, 99);
            x.clear();
            digestIs(x, 99);
        });
        edge("SEED without STEPS", () -> {
            OneBitLoop x = rich();
            x.clear();
            digestIs(x, 99);
        });
        says("how many STEPS it had.");
        edge("none, two, 300", () -> {
            OneBitLoop x = rich();
            due("none", x.clear(), 0);
            steps(x, 5, 6);
            due("two", x.clear(), 2);
            due("none again", x.clear(), 0);
            manySteps(x, 300, 1);
            due("300", x.clear(), 300);
        });
        edge("reels, weights, what was told stay", () -> {
            OneBitLoop x = withReel(2, 7);
            x.stage(0, 0, 0);
            x.weight(3, 33);
            x.hold(0, 9);
            x.reach(5, 5, 9);
            x.worst(2, 3, 4);
            x.clear();
            itemsAre(x, 0, 2, 7);
            due("weight", x.weight(3, 0), 33);
            due("held", x.held(1), 2);
            leavingIs(x, 5, 5, 5);
            worstIs(x, 4, 4);
        });
    }
}
