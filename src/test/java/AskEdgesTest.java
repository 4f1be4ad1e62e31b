/** The sentences of promises 16 to 24: the asks. */
public final class AskEdgesTest extends Edges {
    public static void main(String[] args) {
        stageAt();
        levelAt();
        record();
        forge();
        check();
        checkGreat();
        read();
        weight();
        sums();
        trace();
        end();
    }

    private static OneBitLoop five() {
        OneBitLoop x = new OneBitLoop();
        for (int s = 0; s < 5; s++) {
            due("stage", x.stage(0, 0, 0), s);
        }
        return x;
    }

    private static void stageAt() {
        promise(16);
        says("Of a STAGE: 0 KEPT, 1 BESIDE, 2 CAME, 3 TOLD, 4 LOST, 5 CUT, 6 its KIND.");
        edge("of a TURNING one", () -> {
            OneBitLoop x = with(3, 20, 256);
            x.levels(2, -3, 6);
            steps(x, 30);
            due("kept", x.stageAt(0, 0), 20);
            due("beside", x.stageAt(0, 1), 20);
            due("came", x.stageAt(0, 2), 30);
            due("told", x.stageAt(0, 3), 3);
            due("lost", x.stageAt(0, 4), 0);
            due("cut", x.stageAt(0, 5), 7);
            due("kind", x.stageAt(0, 6), 3);
        });
        edge("of a LEAKY one", () -> {
            OneBitLoop x = with(1, 256, 0);
            steps(x, 8, 0);
            due("lost", x.stageAt(0, 4), 7);
            due("kind", x.stageAt(0, 6), 1);
        });
        edge("of the last of five", () -> {
            OneBitLoop x = five();
            steps(x, 10);
            due("kept", x.stageAt(4, 0), 5);
            due("kind", x.stageAt(4, 6), 0);
        });
        edge("what was forged does not count", () -> {
            OneBitLoop x = with(0, 0, 0);
            steps(x, 10);
            x.forge(0, 2, 77);
            due("kept", x.stageAt(0, 0), 9);
        });
        says("BAD: the least long.");
        edge("no STAGES", () -> due("stageAt", new OneBitLoop().stageAt(0, 0), LEAST));
        for (int s : new int[] {-1, 1, 5, LEAST_INT, MOST_INT}) {
            edge("STAGE " + s + " of 1", () -> due("stageAt", with(0, 0, 0).stageAt(s, 0), LEAST));
        }
        for (int s : new int[] {-1, 5, LEAST_INT, MOST_INT}) {
            edge("STAGE " + s + " of 5", () -> due("stageAt", five().stageAt(s, 6), LEAST));
        }
        for (int what : new int[] {-1, 7, LEAST_INT, MOST_INT}) {
            edge("what " + what, () -> {
                due("of the first", five().stageAt(0, what), LEAST);
                due("of the second", five().stageAt(1, what), LEAST);
                due("of the last", five().stageAt(4, what), LEAST);
            });
        }
        edge("STAGES that were cleared", () -> {
            OneBitLoop x = five();
            x.clear();
            due("stageAt", x.stageAt(0, 6), LEAST);
        });
    }

    private static void levelAt() {
        promise(17);
        says("LEVEL k;");
        edge("the first and the last", () -> {
            OneBitLoop x = new OneBitLoop();
            due("0", x.levelAt(0), -1);
            due("1", x.levelAt(1), 1);
            x.levels(16, 5, 5);
            due("0", x.levelAt(0), 5);
            due("15", x.levelAt(15), 80);
        });
        says("the least long: BAD.");
        for (int k : new int[] {-1, 2, 15, 16, LEAST_INT, MOST_INT}) {
            edge("LEVEL " + k + " of 2", () -> due("levelAt", new OneBitLoop().levelAt(k), LEAST));
        }
        for (int k : new int[] {-1, 16, LEAST_INT, MOST_INT}) {
            edge("LEVEL " + k + " of 16", () -> {
                OneBitLoop x = new OneBitLoop();
                x.levels(16, 5, 5);
                due("levelAt", x.levelAt(k), LEAST);
            });
        }
        edge("one that was", () -> {
            OneBitLoop x = new OneBitLoop();
            x.levels(16, 5, 5);
            x.levels(2, 5, 5);
            due("levelAt", x.levelAt(2), LEAST);
        });
    }

    private static void record() {
        promise(18);
        says("Of STEP t in THE RECORD: 0 the SAMPLE, 1 the LEVEL, 2 + s what STAGE s has KEPT.");
        edge("the first and the last, of two STAGES", () -> {
            OneBitLoop x = with(0, 0, 0);
            x.stage(0, 0, 0);
            x.levels(2, -8, 16);
            steps(x, 6, -3, 5);
            recordIs(x, 0, 6, 8, -2, -10);
            recordIs(x, 1, -3, -8, 3, 1);
            recordIs(x, 2, 5, 8, 0, -7);
        });
        edge("the LEVEL, not its number", () -> {
            OneBitLoop x = new OneBitLoop();
            x.levels(3, 100, 100);
            steps(x, 0, 290);
            due("first", x.record(0, 1), 100);
            due("second", x.record(1, 1), 300);
        });
        edge("the 300th, of five STAGES", () -> {
            OneBitLoop x = five();
            x.levels(2, 0, 1);
            manySteps(x, 299, 0);
            steps(x, 50);
            recordIs(x, 299, 50, 0, 50, 50, 50, 50, 50);
            recordIs(x, 298, 0, 0, 0, 0, 0, 0, 0);
        });
        says("BAD: the least long.");
        edge("no STEPS", () -> due("record", five().record(0, 0), LEAST));
        for (int t : new int[] {-1, 2, 300, LEAST_INT, MOST_INT}) {
            edge("STEP " + t + " of 2", () -> {
                OneBitLoop x = five();
                steps(x, 4, 5);
                due("sample", x.record(t, 0), LEAST);
                due("kept", x.record(t, 6), LEAST);
            });
        }
        for (int t : new int[] {-1, 300, LEAST_INT, MOST_INT}) {
            edge("STEP " + t + " of 300", () -> {
                OneBitLoop x = new OneBitLoop();
                manySteps(x, 300, 1);
                due("record", x.record(t, 0), LEAST);
                due("the last is there", x.record(299, 0), 1);
            });
        }
        for (int what : new int[] {-1, 7, LEAST_INT, MOST_INT}) {
            edge("what " + what + " of five STAGES", () -> {
                OneBitLoop x = five();
                steps(x, 4, 5);
                due("of the first", x.record(0, what), LEAST);
                due("of the second", x.record(1, what), LEAST);
            });
        }
        edge("what 2 without STAGES", () -> {
            OneBitLoop x = new OneBitLoop();
            steps(x, 4, 5);
            due("level", x.record(0, 1), 1);
            due("kept", x.record(0, 2), LEAST);
        });
        edge("what 3 of one STAGE", () -> {
            OneBitLoop x = with(0, 0, 0);
            steps(x, 4, 5);
            due("kept", x.record(0, 2), 3);
            due("no more", x.record(0, 3), LEAST);
        });
        edge("STEPS that are gone", () -> {
            OneBitLoop x = five();
            steps(x, 4, 5);
            x.undo(1);
            due("record", x.record(1, 0), LEAST);
            x.clear();
            due("record", x.record(0, 0), LEAST);
        });
    }

    private static OneBitLoop twoSteps() {
        OneBitLoop x = with(0, 0, 0);
        x.stage(0, 0, 0);
        steps(x, 6, 2);
        return x;
    }

    private static void forge() {
        promise(19);
        says("A number of THE RECORD (as record()) becomes v: 1.");
        for (int w = 0; w < 4; w++) {
            int what = w;
            edge("number " + w + " alone", () -> {
                OneBitLoop x = twoSteps();
                OneBitLoop y = twoSteps();
                due("forge", x.forge(1, what, -55), 1);
                for (int t = 0; t < 2; t++) {
                    for (int other = 0; other < 4; other++) {
                        boolean forged = t == 1 && other == what;
                        due("record(" + t + ", " + other + ")", x.record(t, other), forged ? -55 : y.record(t, other));
                    }
                }
            });
        }
        edge("a LEVEL, what is KEPT: any long", () -> {
            OneBitLoop x = twoSteps();
            for (long v : new long[] {LEAST, MOST, END + 1, -END - 1, 0}) {
                for (int what = 1; what < 4; what++) {
                    due("forge", x.forge(0, what, v), 1);
                    due("record", x.record(0, what), v);
                }
            }
        });
        edge("THE LOOP is as it was", () -> {
            OneBitLoop x = twoSteps();
            for (int what = 0; what < 4; what++) {
                x.forge(1, what, 99);
            }
            stageIs(x, 0, 6, 0, 8, 2);
            stageIs(x, 1, 9, 0, 11, 2);
            due("it goes on so", x.step(0), 1);
            recordIs(x, 2, 0, 1, 5, 13);
        });
        edge("the last of 300", () -> {
            OneBitLoop x = five();
            manySteps(x, 300, 1);
            due("forge", x.forge(299, 6, 5), 1);
            due("record", x.record(299, 6), 5);
        });
        edge("digest(), read(), sums() have it so", () -> {
            OneBitLoop x = twoSteps();
            x.weight(0, 1);
            x.forge(1, 0, 70);
            x.forge(1, 1, 80);
            digestIs(x, 0);
            due("sample", x.record(1, 0), 70);
            due("read", x.read(1), 80);
            due("sums", x.sums(1, 1), 81);
        });
        says("BAD: also a SAMPLE that is none (as step()).");
        edge("a SAMPLE's ends", () -> {
            OneBitLoop x = twoSteps();
            due("high", x.forge(0, 0, END), 1);
            due("beyond", x.forge(0, 0, END + 1), BAD);
            due("the most", x.forge(0, 0, MOST), BAD);
            due("it stays", x.record(0, 0), END);
            due("low", x.forge(0, 0, -END), 1);
            due("beyond", x.forge(0, 0, -END - 1), BAD);
            due("the least", x.forge(0, 0, LEAST), BAD);
            due("it stays", x.record(0, 0), -END);
        });
        edge("no STEPS", () -> due("forge", five().forge(0, 0, 0), BAD));
        for (int t : new int[] {-1, 2, 300, LEAST_INT, MOST_INT}) {
            edge("STEP " + t + " of 2", () -> notForged(twoSteps(), t, 1));
        }
        for (int what : new int[] {-1, 4, 7, LEAST_INT, MOST_INT}) {
            edge("what " + what + " of two STAGES", () -> {
                notForged(twoSteps(), 0, what);
                notForged(twoSteps(), 1, what);
            });
        }
        edge("what 2 without STAGES", () -> {
            OneBitLoop x = new OneBitLoop();
            steps(x, 1);
            notForged(x, 0, 2);
        });
        edge("what 7 of five STAGES, STEP 300 of 300", () -> {
            OneBitLoop x = five();
            manySteps(x, 300, 1);
            notForged(x, 299, 7);
            notForged(x, 300, 0);
        });
    }

    private static void notForged(OneBitLoop x, int t, int what) {
        long was = x.digest();
        due("forge(" + t + ", " + what + ")", x.forge(t, what, 5), BAD);
        due("nothing is changed", x.digest(), was);
        due("check", x.check(), NONE);
    }

    // ---- check

    private static OneBitLoop rich() {
        OneBitLoop x = new OneBitLoop();
        x.stage(3, 40, 77);
        x.stage(4, 9, 2);
        x.stage(2, 100, 0);
        x.stage(1, 99, 0);
        x.stage(0, 0, 0);
        x.levels(5, -20, 9);
        x.lot(3, 99);
        steps(x, 40, -7, 13, 22, -30, 8);
        return x;
    }

    private static void check() {
        promise(20);
        says("From the beginning THE RECORD is gone through, with its SAMPLES:");
        edge("it is as THE LOOP made it, the LOTS too", () -> {
            OneBitLoop x = rich();
            long was = x.digest();
            due("check", x.check(), NONE);
            due("nothing is changed", x.digest(), was);
            due("again", x.check(), NONE);
            due("it goes on", x.step(3) >= 0);
            due("check", x.check(), NONE);
        });
        edge("behind GREAT, undo(), a new STAGE", () -> {
            OneBitLoop x = rich();
            x.undo(6);
            steps(x, 5, 4);
            due("check", x.check(), NONE);
            x.clear();
            x.stage(4, 0, 100);
            manySteps(x, 11, END);
            due("great", x.step(END), GREAT);
            due("check", x.check(), NONE);
        });
        edge("300 STEPS", () -> {
            OneBitLoop x = rich();
            manySteps(x, 294, 3);
            due("check", x.check(), NONE);
            x.forge(299, 6, x.record(299, 6) + 1);
            due("the last", x.check(), 299);
        });
        edge("with a SAMPLE that was forged", () -> {
            OneBitLoop x = with(0, 0, 0);
            steps(x, 4, 5);
            x.forge(0, 0, 6);
            due("kept is another", x.check(), 0);
            x.forge(0, 2, 5);
            due("that STEP is so now, and the next is not", x.check(), 1);
            x.forge(1, 2, 9);
            due("all is so", x.check(), NONE);
        });
        edge("a SAMPLE forged that tells the same LEVEL, without STAGES", () -> {
            OneBitLoop x = new OneBitLoop();
            steps(x, 5, -5);
            x.forge(0, 0, 0);
            due("the same", x.check(), NONE);
            x.forge(0, 0, -1);
            due("another", x.check(), 0);
        });
        says("the first STEP whose LEVEL,");
        for (int t : new int[] {0, 3, 5}) {
            edge("of STEP " + t, () -> {
                OneBitLoop x = rich();
                x.forge(t, 1, x.record(t, 1) + 9);
                due("check", x.check(), t);
                x.forge(t, 1, x.record(t, 1) - 9);
                due("as it was", x.check(), NONE);
            });
        }
        edge("a number that is no LEVEL", () -> {
            OneBitLoop x = rich();
            x.forge(2, 1, MOST);
            due("check", x.check(), 2);
        });
        edge("the first of two", () -> {
            OneBitLoop x = rich();
            x.forge(4, 1, 1000);
            x.forge(2, 1, 1000);
            due("check", x.check(), 2);
        });
        says("or what a STAGE has KEPT, is not as THE LOOP makes it,");
        for (int s = 0; s < 5; s++) {
            int what = 2 + s;
            edge("of STAGE " + s, () -> {
                for (int t : new int[] {0, 3, 5}) {
                    OneBitLoop x = rich();
                    x.forge(t, what, x.record(t, what) + 1);
                    due("check", x.check(), t);
                    x.forge(t, what, x.record(t, what) - 1);
                    due("as it was", x.check(), NONE);
                }
            });
        }
        edge("ahead of a LEVEL that is not", () -> {
            OneBitLoop x = rich();
            x.forge(4, 1, 1000);
            x.forge(3, 6, 1000);
            due("check", x.check(), 3);
        });
    }

    private static void checkGreat() {
        says("or that would be GREAT;");
        edge("by a SAMPLE that was forged", () -> {
            OneBitLoop x = with(4, 0, 100);
            manySteps(x, 11, END);
            steps(x, 0);
            x.forge(11, 0, END);
            due("check", x.check(), 11);
        });
        edge("with the numbers that it would have", () -> {
            OneBitLoop x = with(4, 0, 100);
            manySteps(x, 11, END);
            steps(x, 0);
            x.forge(11, 0, END);
            x.forge(11, 2, 12 * 101 * END - 12);
            due("check", x.check(), 11);
        });
        edge("and nothing behind it", () -> {
            OneBitLoop x = with(4, 0, 100);
            manySteps(x, 11, END);
            steps(x, 0, 0, 0);
            x.forge(11, 0, END);
            x.forge(13, 1, 99);
            due("check", x.check(), 11);
        });
        says("NONE.");
        edge("THE RECORD is empty", () -> due("check", new OneBitLoop().check(), NONE));
        edge("empty, with STAGES", () -> due("check", five().check(), NONE));
        edge("one STEP, without STAGES", () -> {
            OneBitLoop x = new OneBitLoop();
            steps(x, 5);
            due("check", x.check(), NONE);
        });
    }

    // ---- the reader, sums, the trace

    /** THE RECORD of ten STEPS with LEVELS 1, 16, 256 .. */
    private static OneBitLoop powers() {
        OneBitLoop x = new OneBitLoop();
        for (int t = 0; t < 10; t++) {
            steps(x, 0);
            x.forge(t, 1, 1L << 4 * t);
        }
        return x;
    }

    private static OneBitLoop weighed() {
        OneBitLoop x = powers();
        for (int j = 0; j < 8; j++) {
            due("weight", x.weight(j, j + 1), 0);
        }
        return x;
    }

    private static void read() {
        promise(21);
        says("The sum of weight j (see weight()) times the LEVEL of STEP t - j in THE RECORD, for all j");
        edge("all eight", () -> {
            due("eighth", weighed().read(7), 0x12345678L);
            due("tenth", weighed().read(9), 0x1234567800L);
        });
        edge("weights are 0 at first", () -> due("read", powers().read(9), 0));
        edge("LEVELS as they were told", () -> {
            OneBitLoop x = new OneBitLoop();
            x.levels(3, -7, 7);
            steps(x, -100, 100);
            x.weight(0, 10);
            x.weight(1, -3);
            due("read", x.read(1), 91);
        });
        says("(0 ahead of the first STEP),");
        for (int t = 0; t < 7; t++) {
            int step = t;
            edge("STEP " + t, () -> {
                long want = 0;
                for (int j = 0; j <= step; j++) {
                    want += (j + 1L) << 4 * (step - j);
                }
                due("read", weighed().read(step), want);
            });
        }
        says("as longs that wrap;");
        edge("a product", () -> {
            OneBitLoop x = powers();
            x.forge(0, 1, MOST);
            x.weight(0, 2);
            due("read", x.read(0), -2);
            x.weight(0, LEAST_INT);
            x.forge(0, 1, 1L << 32);
            due("read", x.read(0), LEAST);
            x.forge(0, 1, 1L << 33);
            due("read", x.read(0), 0);
        });
        edge("beyond ints", () -> {
            OneBitLoop x = powers();
            x.forge(0, 1, END);
            x.weight(0, MOST_INT);
            due("read", x.read(0), 2147483647000000000L * 1000);
        });
        edge("a sum", () -> {
            OneBitLoop x = powers();
            x.forge(0, 1, MOST);
            x.forge(1, 1, MOST);
            x.weight(0, 1);
            x.weight(1, 1);
            due("read", x.read(1), -2);
        });
        says("0: there is no STEP t.");
        edge("no STEPS", () -> {
            OneBitLoop x = new OneBitLoop();
            x.weight(0, 5);
            due("read", x.read(0), 0);
        });
        for (int t : new int[] {-1, 10, 11, 17, 300, LEAST_INT, MOST_INT}) {
            edge("STEP " + t + " of 10", () -> due("read", weighed().read(t), 0));
        }
        edge("STEP 300 of 300", () -> {
            OneBitLoop x = new OneBitLoop();
            manySteps(x, 300, 1);
            x.weight(1, 5);
            due("the last", x.read(299), 5);
            due("no more", x.read(300), 0);
        });
        edge("STEPS that are gone", () -> {
            OneBitLoop x = weighed();
            x.undo(1);
            due("read", x.read(9), 0);
        });
    }

    private static void weight() {
        promise(22);
        says("Weight j (0 .. 7; 0 at first) of the READER: what it was.");
        for (int j = 0; j < 8; j++) {
            int weight = j;
            edge("weight " + j, () -> {
                OneBitLoop x = new OneBitLoop();
                due("at first", x.weight(weight, LEAST_INT), 0);
                due("then", x.weight(weight, MOST_INT), LEAST_INT);
                due("then", x.weight(weight, 0), MOST_INT);
                for (int other = 0; other < 8; other++) {
                    due("the others", x.weight(other, 0), 0);
                }
            });
        }
        edge("with STEPS, too", () -> {
            OneBitLoop x = powers();
            due("weight", x.weight(0, 4), 0);
            due("read", x.read(0), 4);
        });
        says("BAD: the least int.");
        for (int j : new int[] {-1, 8, LEAST_INT, MOST_INT}) {
            edge("weight " + j, () -> {
                OneBitLoop x = weighed();
                long was = x.read(9);
                due("weight", x.weight(j, 99), LEAST_INT);
                due("nothing is changed", x.read(9), was);
            });
        }
    }

    private static OneBitLoop ones(int n) {
        OneBitLoop x = new OneBitLoop();
        manySteps(x, n, 5);
        return x;
    }

    private static void sums() {
        promise(23);
        says("Running sums, one of the other, m (1 to 4) times, of LEVELS in THE RECORD up to STEP t,");
        long[] want = {5, 15, 35, 70};
        for (int k = 1; k <= 4; k++) {
            int m = k;
            edge("m " + m, () -> {
                due("of 5", ones(5).sums(m, 4), want[m - 1]);
                due("up to it alone", ones(9).sums(m, 4), want[m - 1]);
                due("of the first", ones(5).sums(m, 0), 1);
            });
        }
        edge("LEVELS that differ", () -> {
            OneBitLoop x = new OneBitLoop();
            x.levels(3, -7, 10);
            steps(x, -100, 100, 0);
            // -7, 13, 3; -7, 6, 9; -7, -1, 8; -7, -8, 0; -7, -15, -15
            due("1", x.sums(1, 2), 9);
            due("2", x.sums(2, 2), 8);
            due("3", x.sums(3, 2), 0);
            due("4", x.sums(4, 2), -15);
            due("4, up to the second", x.sums(4, 1), -15);
        });
        edge("up to the 300th", () -> {
            due("1", ones(300).sums(1, 299), 300);
            due("2", ones(300).sums(2, 299), 300 * 301 / 2);
            due("4", ones(300).sums(4, 299), 300L * 301 * 302 * 303 / 24);
        });
        says("as longs that wrap;");
        edge("the first sum", () -> {
            OneBitLoop x = ones(2);
            x.forge(0, 1, MOST);
            due("sums", x.sums(1, 1), LEAST);
        });
        edge("a sum of sums", () -> {
            OneBitLoop x = ones(2);
            x.forge(0, 1, MOST);
            x.forge(1, 1, 0);
            due("1", x.sums(1, 1), MOST);
            due("2", x.sums(2, 1), -2);
            due("3", x.sums(3, 1), MOST - 2);
        });
        says("0: BAD.");
        for (int m : new int[] {-1, 0, 5, LEAST_INT, MOST_INT}) {
            edge("m " + m, () -> due("sums", ones(5).sums(m, 4), 0));
        }
        for (int t : new int[] {-1, 5, 300, LEAST_INT, MOST_INT}) {
            edge("STEP " + t + " of 5", () -> {
                for (int m = 1; m <= 4; m++) {
                    due("sums", ones(5).sums(m, t), 0);
                }
            });
        }
        edge("STEP 300 of 300", () -> due("sums", ones(300).sums(1, 300), 0));
        edge("no STEPS", () -> due("sums", new OneBitLoop().sums(1, 0), 0));
        edge("STEPS that are gone", () -> {
            OneBitLoop x = ones(5);
            x.undo(1);
            due("sums", x.sums(1, 4), 0);
            due("those that are left", x.sums(1, 3), 4);
        });
    }

    private static void trace() {
        promise(24);
        says("Number k of THE TRACE;");
        edge("the first and the last", () -> {
            OneBitLoop x = with(3, 1, 1);
            x.stage(1, 1, 0);
            steps(x, 4);
            due("first", x.trace(0), 13);
            due("second", x.trace(1), 12);
            due("third", x.trace(2), 10);
            due("fourth", x.trace(3), 11);
            due("last", x.trace(4), 10);
        });
        edge("the 15th", () -> {
            OneBitLoop x = new OneBitLoop();
            for (int s = 0; s < 5; s++) {
                x.stage(3, 1, 1);
            }
            steps(x, 4);
            due("13th", x.trace(12), 13);
            due("15th", x.trace(14), 10);
            due("no 16th", x.trace(15), NONE);
        });
        says("NONE.");
        edge("no STEP yet", () -> due("trace", five().trace(0), NONE));
        edge("a STEP without STAGES", () -> {
            OneBitLoop x = new OneBitLoop();
            steps(x, 4);
            due("trace", x.trace(0), NONE);
        });
        for (int k : new int[] {-1, 5, 15, LEAST_INT, MOST_INT}) {
            edge("number " + k + " of 5", () -> {
                OneBitLoop x = five();
                steps(x, 4);
                due("trace", x.trace(k), NONE);
            });
        }
    }
}
