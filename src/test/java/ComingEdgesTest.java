/** The sentences on what can come: the third part of "Terms", and promises 25 to 32. */
public final class ComingEdgesTest extends Edges {
    /** the first SAMPLE that is GREAT for nearGreat(); one less is above the greatest most */
    private static final long TOO_MUCH = 258999068428L;

    public static void main(String[] args) {
        twins();
        comesRound();
        stands();
        leaves();
        hold();
        held();
        reach();
        reachIsRefused();
        leaving();
        worst();
        worstIsRefused();
        worstAt();
        count();
        digest();
        end();
    }

    /** A PLAIN STAGE with two LEVELS. */
    private static OneBitLoop plain(long low, long gap) {
        OneBitLoop x = with(0, 0, 0);
        due("levels", x.levels(2, low, gap), 1);
        return x;
    }

    private static void heldIs(OneBitLoop x, long comes, long round, long sum) {
        due("held(0)", x.held(0), comes);
        due("held(1)", x.held(1), round);
        due("held(2)", x.held(2), sum);
    }

    private static void worstIsNot(OneBitLoop x, int n, long low, long high, int why) {
        due("worst(" + n + ", " + low + ", " + high + ")", x.worst(n, low, high), LEAST);
        due("count(5)", x.count(5), why);
    }

    /** 11 STEPS of a FED STAGE: 1100 times END less 160 is KEPT, and 16 is told next. */
    private static OneBitLoop nearGreat(int sign) {
        OneBitLoop x = new OneBitLoop();
        x.levels(2, sign > 0 ? 0 : -16, 16);
        x.stage(4, 0, 99);
        for (int t = 0; t < 11; t++) {
            steps(x, sign * END);
        }
        stageIs(x, 0, sign * (1100 * END - 160));
        return x;
    }

    // ---- Terms

    private static void twins() {
        open("======== 3 ", "Refusals, the first that fits");
        says("A TWIN is THE LOOP as it is,");
        edge("hold() goes on from there", () -> {
            OneBitLoop x = with(2, 5, 0);
            due("from rest", x.hold(10, 9), 1);
            steps(x, 10);
            due("from the bound", x.hold(10, 9), 0);
        });
        edge("reach() goes on from there", () -> {
            OneBitLoop x = with(2, 5, 0);
            due("from rest", x.reach(10, 10, 9), 2);
            steps(x, 10);
            due("from the bound", x.reach(10, 10, 9), 1);
        });
        edge("with its LEVELS", () -> {
            OneBitLoop x = plain(0, 3);
            due("hold", x.hold(1, 9), 0);
            heldIs(x, 0, 3, 3);
            x.levels(2, 0, 4);
            due("hold", x.hold(1, 9), 0);
            heldIs(x, 0, 4, 4);
        });
        says("on which STEPS are tried that leave all as it was.");
        edge("all but what they tell", () -> {
            OneBitLoop x = with(1, 9, 0);
            x.stage(4, 3, 2);
            steps(x, 9, 30, -4);
            long was = x.digest();
            due("hold", x.hold(3, 100) > GREAT);
            due("reach", x.reach(0, 3, 100) != BAD);
            due("worst", x.worst(5, -9, 9) > 0);
            due("digest", x.digest(), was);
            due("steps", x.count(2), 3);
            traceIs(x, 11, 10, 14, 11, 10);
            due("check", x.check(), NONE);
        });
        edge("the SEED, too", () -> {
            OneBitLoop x = with(0, 0, 0);
            x.lot(5, 7);
            due("hold", x.hold(3, 100), SPENT);
            digestIs(x, 7);
            steps(x, 1);
            due("hold", x.hold(3, 100), SPENT);
            digestIs(x, nextSeed(7));
        });
        edge("it goes on as without them", () -> {
            OneBitLoop x = with(4, 3, 2);
            OneBitLoop y = with(4, 3, 2);
            for (long u : new long[] {9, 30, -4, 7, 7}) {
                x.hold(u, 20);
                x.reach(u, u + 1, 50);
                x.worst(4, u, -u);
                due("step", x.step(u), y.step(u));
            }
            due("digest", x.digest(), y.digest());
        });
        edge("where it is GREAT, too", () -> {
            OneBitLoop x = nearGreat(1);
            long was = x.digest();
            due("hold", x.hold(TOO_MUCH, 1), GREAT);
            due("reach", x.reach(TOO_MUCH, TOO_MUCH, DEEP), GREAT);
            worstIsNot(x, 12, END, 0, GREAT);
            due("digest", x.digest(), was);
            due("the same step as ahead of it", x.step(0), 1);
            due("check", x.check(), NONE);
        });
        says("REST: KEPT, BESIDE of all STAGES 0.");
        edge("worst() begins there", () -> {
            OneBitLoop x = with(3, 50, 128);
            x.stage(0, 0, 0);
            OneBitLoop y = with(3, 50, 128);
            y.stage(0, 0, 0);
            steps(x, 22, 40, -7);
            due("beside", x.stageAt(0, 1) != 0);
            for (int n = 1; n < 6; n++) {
                due("worst of " + n, x.worst(n, -9, 20), y.worst(n, -9, 20));
            }
            stageIs(x, 0, x.record(2, 2));
        });
    }

    private static void comesRound() {
        says("HOLD: a TWIN makes STEPS with the same SAMPLE.");
        edge("each SAMPLE of a period", () -> {
            for (int u = 0; u < 8; u++) {
                OneBitLoop x = plain(0, 8);
                // above the middle it is never 0 again
                int comes = u > 4 ? 1 : 0;
                due("hold", x.hold(u, 9), comes);
                int round = u == 0 ? 1 : 8 / gcd(u, 8);
                heldIs(x, comes, round, (long) round * u);
            }
        });
        says("It COMES ROUND at a STEP, if KEPT and BESIDE of all STAGES,");
        edge("BESIDE, too", () -> {
            // kept and beside: 0 0, 1 1, 1 2, 0 2, -1 1, 1 2
            OneBitLoop x = with(3, 1, 256);
            due("hold", x.hold(2, 5), 2);
            heldIs(x, 2, 3, 1);
            due("not at the fourth", x.hold(2, 4), SPENT);
        });
        edge("BESIDE of a STAGE that is not the last", () -> {
            // what is kept stays at 1, what is beside rises
            OneBitLoop x = with(3, 1, 256);
            x.stage(2, 1, 0);
            due("hold", x.hold(END, 400), SPENT);
        });
        edge("the first STAGE, where the last has come round", () -> {
            OneBitLoop x = with(0, 0, 0);
            x.stage(2, 1, 0);
            due("hold", x.hold(5, 400), SPENT);
        });
        edge("the last STAGE, where the first has come round", () -> {
            OneBitLoop x = with(2, 5, 0);
            x.stage(0, 0, 0);
            due("hold", x.hold(9, 400), SPENT);
        });
        for (int k = 0; k < 5; k++) {
            int which = k;
            edge("KEPT of STAGE " + k + " of five alone does not", () -> {
                due("hold", fiveButOne(which, 0, 0).hold(END, 400), SPENT);
                due("it does, too", fiveButOne(which, 2, 0).hold(END, 400) >= 0);
            });
            edge("BESIDE of STAGE " + k + " of five alone does not", () -> {
                due("hold", fiveButOne(which, 3, 256).hold(END, 400), SPENT);
                due("it does, too", fiveButOne(which, 3, 0).hold(END, 400) >= 0);
            });
        }
        edge("the ledgers do not count", () -> {
            OneBitLoop x = with(2, 5, 0);
            steps(x, 9);
            due("hold", x.hold(9, 1), 0);
            x = with(1, 256, 0);
            steps(x, 9);
            due("hold", x.hold(9, 1), 0);
        });
        says("and, if SPAN is not 0, the SEED,");
        edge("KEPT stays, the SEED does not", () -> {
            OneBitLoop x = with(2, 1, 0);
            x.lot(1, 5);
            due("hold", x.hold(END, 400), SPENT);
            x.lot(0, 5);
            due("without a SPAN", x.hold(END, 400), 1);
        });
        edge("without STAGES", () -> {
            OneBitLoop x = new OneBitLoop();
            x.lot(1, 5);
            due("hold", x.hold(0, 400), SPENT);
            x.lot(0, 5);
            due("without a SPAN", x.hold(0, 400), 0);
        });
        says("are what they were behind an earlier STEP");
        edge("the one just ahead", () -> {
            OneBitLoop x = with(2, 5, 0);
            due("hold", x.hold(END, 9), 1);
            heldIs(x, 1, 1, 1);
        });
        edge("one farther ahead", () -> {
            // 0, 7, 6, 5, 4, 3, 10, 9, 8, 7
            OneBitLoop x = plain(0, 8);
            due("not at the eighth", x.hold(7, 8), SPENT);
            due("at the ninth", x.hold(7, 9), 1);
            heldIs(x, 1, 8, 56);
        });
        says("(or ahead of the first):");
        edge("from rest", () -> {
            OneBitLoop x = plain(-8, 16);
            due("hold", x.hold(3, 16), 0);
            heldIs(x, 0, 16, 48);
        });
        edge("from where THE LOOP is", () -> {
            OneBitLoop x = plain(-8, 16);
            steps(x, 3, 3, 3);
            due("hold", x.hold(3, 16), 0);
            heldIs(x, 0, 16, 48);
        });
        edge("at the first STEP", () -> {
            OneBitLoop x = plain(0, 1);
            due("hold", x.hold(0, 1), 0);
            heldIs(x, 0, 1, 0);
        });
        says("COMES is how many STEPS that had, ROUND how many more it took, SUM that of LEVELS of these.");
        edge("a long way to it: only what comes round is summed up", () -> {
            OneBitLoop x = with(2, 50, 0);
            x.levels(2, 0, 1);
            // 2, then one more with each STEP
            due("hold", x.hold(2, 400), 49);
            heldIs(x, 49, 1, 1);
        });
        edge("LEVELS of both signs", () -> {
            OneBitLoop x = plain(-8, 16);
            due("hold", x.hold(-5, 99), 0);
            heldIs(x, 0, 16, -80);
        });
        edge("LEVELS at the ends", () -> {
            OneBitLoop x = with(2, 1, 0);
            x.level(1, END);
            x.level(0, END - 1);
            due("hold", x.hold(0, 9), 1);
            heldIs(x, 1, 1, END - 1);
        });
        edge("without STAGES", () -> {
            OneBitLoop x = new OneBitLoop();
            due("hold", x.hold(-5, 1), 0);
            heldIs(x, 0, 1, -1);
        });
    }

    /**
     * Five STAGES that soon stay at their bounds, but for one: a PLAIN one goes on to rise, and so does
     * what a TURNING one has BESIDE, for those ahead keep 1000 and give it that.
     */
    private static OneBitLoop fiveButOne(int which, int kind, int turn) {
        OneBitLoop x = new OneBitLoop();
        x.levels(2, -1, 1);
        for (int s = 0; s < 5; s++) {
            if (s == which) {
                x.stage(kind, kind == 0 ? 0 : 1, turn);
            } else {
                x.stage(2, s < which ? 1000 : 1, 0);
            }
        }
        due("stages", x.count(0), 5);
        return x;
    }

    private static int gcd(int a, int b) {
        return b == 0 ? a : gcd(b, a % b);
    }

    private static void stands() {
        says("REACH: from THE LOOP as it is, with any SAMPLES from low to high:");
        edge("one SAMPLE", () -> due("reach", plain(-8, 16).reach(3, 3, 99), 16));
        edge("some", () -> due("reach", plain(-8, 16).reach(-1, 1, 40), 18));
        edge("the lowest and the highest are among them", () -> {
            OneBitLoop x = with(2, 100, 0);
            // -4 and 2 behind the first STEP
            due("both are within", x.reach(-3, 3, 4) < -101);
            due("the lowest is not", x.reach(-3, 3, 3), -101);
            leavingIs(x, -3);
            due("the highest is not", x.reach(0, 3, 1), -101);
            leavingIs(x, 3);
        });
        says("STANDS (what STAGES have KEPT) in the order in which they are found:");
        edge("the ledgers do not count", () -> {
            OneBitLoop x = with(2, 1, 0);
            due("reach", x.reach(9, 9, 5), 2);
        });
        edge("of two STAGES both count", () -> {
            OneBitLoop x = with(2, 1, 0);
            x.stage(2, 3, 0);
            x.levels(2, 0, 5);
            // 0 0, 1 1, 1 2, 1 3 and, by the LEVEL 5, -1 -3, -1 -3 ..
            due("one after the other", x.reach(1, 1, 9), standsOf(x, 1));
            OneBitLoop y = with(2, 3, 0);
            y.stage(2, 1, 0);
            y.levels(2, 0, 5);
            due("the first goes on, the last stays", y.reach(1, 1, 9), standsOf(y, 1));
        });
        says("of each STAND, from the first on, STEPS with SAMPLES from low up are tried;");
        // behind 0 come 0, 1, 2, 3 by 1, 2, 3, 4; then each adds 0, 1, 2, 3
        edge("the lowest SAMPLE of the first STAND that leads out", () -> {
            OneBitLoop x = with(0, 0, 0);
            due("most 1", x.reach(1, 4, 1), -101);
            leavingIs(x, 3);
            due("most 2", x.reach(1, 4, 2), -101);
            leavingIs(x, 4);
        });
        edge("the earliest STAND that leads out", () -> {
            OneBitLoop x = with(0, 0, 0);
            due("most 3", x.reach(1, 4, 3), -102);
            leavingIs(x, 2, 4);
            due("most 4", x.reach(1, 4, 4), -102);
            leavingIs(x, 3, 4);
            due("most 5", x.reach(1, 4, 5), -102);
            leavingIs(x, 4, 4);
            due("most 6", x.reach(1, 4, 6), -103);
            leavingIs(x, 2, 4, 4);
        });
        says("a STAND that is new comes behind those that there are.");
        edge("all that come are counted once", () -> {
            due("reach", with(0, 0, 0).reach(0, 0, 9), 2);
            due("reach", with(0, 0, 0).reach(-1, 1, 9), 4);
            due("reach", plain(0, 1).reach(0, 0, 9), 1);
        });
        edge("the first is among them", () -> due("reach", plain(0, 7).reach(1, 1, 9), 7));
        edge("the first that led to a STAND is kept", () -> {
            // to 2 lead 3, and 2 and 2; from there 4 leads out
            OneBitLoop x = with(0, 0, 0);
            due("reach", x.reach(2, 4, 4), -102);
            leavingIs(x, 3, 4);
        });
    }

    /** How many STANDS one SAMPLE goes through, by STEPS. */
    private static int standsOf(OneBitLoop like, long u) {
        java.util.Set<String> seen = new java.util.HashSet<>();
        seen.add("0 0");
        manySteps(like, 60, u);
        for (int t = 0; t < 60; t++) {
            seen.add(like.record(t, 2) + " " + like.record(t, 3));
        }
        like.undo(60);
        return seen.size();
    }

    private static void leaves() {
        says("If some STAGE has more than most KEPT by a STEP tried, or less than -most: it LEAVES at once;");
        edge("as much as most", () -> {
            due("above", with(2, 7, 0).reach(9, 9, 7), 2);
            due("below", with(2, 7, 0).reach(-9, -9, 7), 2);
        });
        edge("one more", () -> {
            due("above", with(2, 8, 0).reach(9, 9, 7), -101);
            due("below", with(2, 8, 0).reach(-9, -9, 7), -101);
        });
        edge("the first STAGE", () -> {
            OneBitLoop x = with(2, 8, 0);
            x.stage(2, 1, 0);
            due("reach", x.reach(9, 9, 7), -101);
            due("reach", x.reach(-9, -9, 7), -101);
        });
        edge("the last STAGE", () -> {
            OneBitLoop x = with(2, 5, 0);
            x.stage(0, 0, 0);
            // 4, then 8
            due("reach", x.reach(9, 9, 6), -102);
            // -6, then -10
            due("reach", x.reach(-9, -9, 6), -102);
            due("reach", x.reach(-9, -9, 5), -101);
        });
        edge("at once, though others would lead to more STANDS", () -> {
            OneBitLoop x = with(0, 0, 0);
            due("reach", x.reach(0, 6, 1), -101);
            leavingIs(x, 3);
        });
        edge("a STAND that was there is asked no more", () -> due("reach", plain(-8, 16).reach(-1, 1, 9), 18));
        says("the row of SAMPLES that led there is told.");
        edge("one", () -> {
            OneBitLoop x = with(0, 0, 0);
            due("reach", x.reach(-END, -END, DEEP), SPENT);
            due("reach", x.reach(-END, -END, END), -101);
            leavingIs(x, -END);
        });
        edge("500", () -> {
            OneBitLoop x = with(0, 0, 0);
            due("reach", x.reach(2, 2, 499), -600);
            due("first", x.leaving(0), 2);
            due("last", x.leaving(499), 2);
            due("behind", x.leaving(500), 0);
        });
        edge("the row leads there by STEPS", () -> {
            OneBitLoop x = with(1, 60, 0);
            x.stage(4, 30, 2);
            steps(x, 6);
            int answer = x.reach(-3, 3, 40);
            due("it leaves", answer < -100);
            long[] row = new long[-100 - answer];
            for (int i = 0; i < row.length; i++) {
                row[i] = x.leaving(i);
            }
            for (int i = 0; i < row.length; i++) {
                steps(x, row[i]);
                long size = Math.max(Math.abs(x.stageAt(0, 0)), Math.abs(x.stageAt(1, 0)));
                due("it is out behind the last alone", size > 40 == (i == row.length - 1));
            }
        });
        says("(The first STAND is not asked that.)");
        edge("it has more than most", () -> {
            OneBitLoop x = with(2, 100, 0);
            x.levels(2, 0, 1);
            steps(x, 21);
            // 15, 9, 3, -3, -8, -13, -18
            due("it comes below most", x.reach(-5, -5, 15), -107);
            due("the second is asked", x.reach(-5, -5, 14), -101);
        });
        edge("it has less than -most", () -> {
            OneBitLoop x = with(2, 100, 0);
            steps(x, -20);
            stageIs(x, 0, -21);
            // 0, 19, 38
            due("reach", x.reach(20, 20, 20), -103);
            x.undo(1);
            x.levels(2, 0, 30);
            steps(x, -16);
            // -16, 0, 16, and then 2
            due("reach", x.reach(16, 16, 15), -102);
        });
        edge("a STEP that comes back to it is asked", () -> {
            OneBitLoop x = with(2, 100, 0);
            x.levels(2, 0, 1);
            steps(x, 21);
            due("reach", x.reach(1, 1, 20), -101);
            due("reach", x.reach(1, 1, 21), 1);
        });
    }

    // ---- promises 25 and 26

    private static void hold() {
        promise(25);
        says("HOLD of a SAMPLE (as step()) for 1 to 400 STEPS: COMES.");
        edge("for 1", () -> {
            due("it comes", plain(0, 1).hold(0, 1), 0);
            due("it does not", plain(0, 2).hold(1, 1), SPENT);
        });
        edge("for 400", () -> {
            OneBitLoop x = plain(0, 400);
            due("hold", x.hold(1, 400), 0);
            heldIs(x, 0, 400, 400);
        });
        edge("for 400, of which 399 lead there", () -> {
            OneBitLoop x = with(2, 400, 0);
            x.levels(2, 0, 1);
            due("hold", x.hold(2, 400), 399);
            heldIs(x, 399, 1, 1);
        });
        edge("for 400, of five TURNING STAGES", () -> {
            OneBitLoop x = new OneBitLoop();
            for (int s = 0; s < 5; s++) {
                x.stage(3, 3, 0);
            }
            // 3, 2, 1, 0, -1 are kept, then 3 of each
            due("it comes", x.hold(9, 400), 2);
            OneBitLoop y = new OneBitLoop();
            for (int s = 0; s < 5; s++) {
                y.stage(3, 1000, 1);
            }
            y.lot(1, 1);
            due("it does not", y.hold(500, 400), SPENT);
        });
        edge("the ends of a SAMPLE", () -> {
            due("high", with(2, 5, 0).hold(END, 9), 1);
            due("low", with(2, 5, 0).hold(-END, 9), 1);
        });
        says("BAD;");
        for (long u : new long[] {END + 1, -END - 1, LEAST, MOST}) {
            edge("SAMPLE " + u, () -> due("hold", with(2, 5, 0).hold(u, 9), BAD));
        }
        for (int most : new int[] {0, -1, 401, LEAST_INT, MOST_INT}) {
            edge("most " + most, () -> due("hold", with(2, 5, 0).hold(0, most), BAD));
        }
        edge("ahead of SPENT, GREAT", () -> {
            due("spent", plain(0, 500).hold(1, 401), BAD);
            due("great", nearGreat(1).hold(END, 401), BAD);
        });
        says("SPENT: it does not come round within them;");
        edge("one too few", () -> {
            due("15 of 16", plain(-8, 16).hold(3, 15), SPENT);
            due("16 of 16", plain(-8, 16).hold(3, 16), 0);
            due("399 of 400", plain(0, 400).hold(1, 399), SPENT);
            due("400 of 401", plain(0, 401).hold(1, 400), SPENT);
        });
        edge("one too few behind a long way", () -> {
            OneBitLoop x = with(2, 400, 0);
            x.levels(2, 0, 1);
            due("399 of 400", x.hold(2, 399), SPENT);
            OneBitLoop y = with(2, 401, 0);
            y.levels(2, 0, 1);
            due("400 of 401", y.hold(2, 400), SPENT);
        });
        says("GREAT: ahead of that.");
        edge("the twelfth STEP", () -> {
            OneBitLoop x = with(4, 0, 100);
            due("of 11", x.hold(END, 11), SPENT);
            due("of 12", x.hold(END, 12), GREAT);
            due("of 400", x.hold(END, 400), GREAT);
            due("below", x.hold(-END, 400), GREAT);
        });
        edge("the first STEP", () -> {
            due("step", nearGreat(1).hold(TOO_MUCH, 1), GREAT);
            due("one less", nearGreat(1).hold(TOO_MUCH - 1, 1), SPENT);
            due("below", nearGreat(-1).hold(-TOO_MUCH, 1), GREAT);
        });
    }

    private static void held() {
        promise(26);
        says("Of the latest hold() that came round: 0 COMES, 1 ROUND, 2 SUM.");
        edge("the latest", () -> {
            OneBitLoop x = plain(-8, 16);
            due("first", x.hold(3, 99), 0);
            due("second", x.hold(4, 99), 0);
            heldIs(x, 0, 4, 16);
        });
        edge("each of its own", () -> {
            OneBitLoop x = with(3, 1, 256);
            due("hold", x.hold(2, 5), 2);
            due("comes", x.held(0), 2);
            due("round", x.held(1), 3);
            due("sum", x.held(2), 1);
        });
        edge("one that was refused does not count", () -> {
            OneBitLoop x = plain(-8, 16);
            x.hold(3, 99);
            due("bad", x.hold(END + 1, 99), BAD);
            heldIs(x, 0, 16, 48);
            due("bad", x.hold(4, 0), BAD);
            heldIs(x, 0, 16, 48);
            due("spent", x.hold(3, 15), SPENT);
            heldIs(x, 0, 16, 48);
            x.clear();
            x.stage(4, 0, 100);
            due("great", x.hold(END, 99), GREAT);
            heldIs(x, 0, 16, 48);
        });
        edge("steps, undo(), clear() leave it", () -> {
            OneBitLoop x = plain(-8, 16);
            x.hold(3, 99);
            steps(x, 4, 5);
            x.undo(1);
            x.clear();
            heldIs(x, 0, 16, 48);
        });
        says("0 before any;");
        edge("of a new object", () -> heldIs(new OneBitLoop(), 0, 0, 0));
        edge("those before were refused", () -> {
            OneBitLoop x = plain(0, 500);
            x.hold(1, 400);
            x.hold(1, 401);
            heldIs(x, 0, 0, 0);
        });
        says("BAD: the least long.");
        for (int what : new int[] {-1, 3, LEAST_INT, MOST_INT}) {
            edge("what " + what, () -> {
                OneBitLoop x = plain(-8, 16);
                due("before any", x.held(what), LEAST);
                x.hold(3, 99);
                due("then", x.held(what), LEAST);
            });
        }
    }

    // ---- promises 27 and 28

    private static void reach() {
        promise(27);
        says("REACH with SAMPLES low to high (as step(); at most 6 above)");
        edge("6 above", () -> due("reach", with(2, 3, 0).reach(-3, 3, 3), 7));
        edge("as high as low", () -> due("reach", with(2, 3, 0).reach(2, 2, 3), 4));
        edge("the ends", () -> {
            due("high", with(2, 3, 0).reach(END - 6, END, 3), 2);
            due("low", with(2, 3, 0).reach(-END, 6 - END, 3), 2);
            due("beyond, high", with(2, 3, 0).reach(END - 5, END + 1, 3), BAD);
            due("beyond, low", with(2, 3, 0).reach(-END - 1, 5 - END, 3), BAD);
            due("both beyond", with(2, 3, 0).reach(END + 1, END + 1, 3), BAD);
            due("both beyond", with(2, 3, 0).reach(-END - 1, -END - 1, 3), BAD);
        });
        edge("7 above", () -> due("reach", with(2, 3, 0).reach(-3, 4, 3), BAD));
        edge("1 below", () -> due("reach", with(2, 3, 0).reach(3, 2, 3), BAD));
        edge("what would wrap", () -> {
            due("far", with(2, 3, 0).reach(LEAST, MOST, 3), BAD);
            due("far", with(2, 3, 0).reach(MOST, LEAST, 3), BAD);
            due("far", with(2, 3, 0).reach(-END, END, 3), BAD);
            due("the most", with(2, 3, 0).reach(MOST - 1, MOST, 3), BAD);
            due("the least", with(2, 3, 0).reach(LEAST, LEAST + 1, 3), BAD);
        });
        says("and most (1 to 1000000000000000):");
        edge("1", () -> {
            due("within", with(2, 1, 0).reach(-3, 3, 1), 3);
            due("out", with(2, 2, 0).reach(3, 3, 1), -101);
        });
        edge("the greatest", () -> due("reach", with(2, 3, 0).reach(-3, 3, DEEP), 7));
        for (long most : new long[] {0, -1, DEEP + 1, LEAST, MOST}) {
            edge("most " + most, () -> due("reach", with(2, 3, 0).reach(0, 0, most), BAD));
        }
        says("how many STANDS;");
        edge("one", () -> due("reach", plain(0, 1).reach(0, 0, 1), 1));
        edge("500", () -> due("reach", plain(0, 500).reach(1, 1, DEEP), 500));
        says("-100 less how many SAMPLES lead out, if it LEAVES.");
        edge("one, two, 500", () -> {
            due("one", with(0, 0, 0).reach(4, 4, 2), -101);
            due("two", with(0, 0, 0).reach(4, 4, 5), -102);
            due("500", with(0, 0, 0).reach(2, 2, 499), -600);
        });
    }

    private static void reachIsRefused() {
        says("BAD;");
        edge("ahead of NOT", () -> {
            OneBitLoop x = new OneBitLoop();
            due("low", x.reach(-END - 1, -END, 5), BAD);
            due("far", x.reach(0, 7, 5), BAD);
            due("most", x.reach(0, 1, 0), BAD);
        });
        says("NOT: there are not one or two STAGES,");
        for (int n = 0; n <= 5; n++) {
            int stages = n;
            edge(n + " STAGES", () -> {
                OneBitLoop x = new OneBitLoop();
                for (int s = 0; s < stages; s++) {
                    x.stage(2, 1, 0);
                }
                due("it is not", x.reach(0, 1, 9) == NOT == (stages < 1 || stages > 2));
            });
        }
        says("one is TURNING,");
        for (int kind = 0; kind < 5; kind++) {
            int other = kind;
            edge("beside KIND " + kind, () -> {
                OneBitLoop x = with(other, other == 0 ? 0 : 1, 0);
                due("alone", x.reach(0, 0, 9) == NOT == (other == 3));
                x.stage(3, 1, 0);
                due("the second", x.reach(0, 0, 9), NOT);
                OneBitLoop y = with(3, 1, 0);
                y.stage(other, other == 0 ? 0 : 1, 0);
                due("the first", y.reach(0, 0, 9), NOT);
            });
        }
        edge("one that was cleared is none", () -> {
            OneBitLoop x = new OneBitLoop();
            for (int s = 0; s < 5; s++) {
                x.stage(3, 1, 0);
            }
            x.clear();
            due("stage", x.stage(2, 1, 0), 0);
            due("one", x.reach(9, 9, 9), 2);
            due("stage", x.stage(2, 1, 0), 1);
            due("two", x.reach(9, 9, 9) > 0);
        });
        says("or SPAN is not 0;");
        edge("1 and 0", () -> {
            OneBitLoop x = with(2, 1, 0);
            x.lot(1, 0);
            due("1", x.reach(0, 0, 9), NOT);
            x.lot(0, 1);
            due("0", x.reach(0, 0, 9), 2);
        });
        says("SPENT: more than 500 STANDS;");
        edge("501", () -> due("reach", plain(0, 501).reach(1, 1, DEEP), SPENT));
        edge("the 501st, where the next would lead out", () -> {
            due("500 stand", with(0, 0, 0).reach(2, 2, 499), -600);
            due("501 stand", with(0, 0, 0).reach(2, 2, 500), SPENT);
        });
        edge("two STAGES", () -> {
            OneBitLoop x = with(0, 0, 0);
            x.stage(0, 0, 0);
            due("reach", x.reach(-3, 3, DEEP), SPENT);
        });
        says("GREAT, as it is met.");
        edge("by the first STEP", () -> {
            due("above", nearGreat(1).reach(TOO_MUCH, TOO_MUCH, DEEP), GREAT);
            due("below", nearGreat(-1).reach(-TOO_MUCH, -TOO_MUCH, DEEP), GREAT);
        });
        edge("what leaves ahead of it", () -> {
            due("the lower is not GREAT", nearGreat(1).reach(TOO_MUCH - 1, TOO_MUCH, DEEP), -101);
        });
        edge("ahead of what leaves", () -> {
            due("the lower is GREAT", nearGreat(-1).reach(-TOO_MUCH, 1 - TOO_MUCH, DEEP), GREAT);
        });
        edge("of the second STAGE", () -> {
            OneBitLoop x = with(2, 1, 0);
            x.stage(4, 0, 100);
            manySteps(x, 11, END);
            due("reach", x.reach(END, END, DEEP), GREAT);
        });
    }

    private static OneBitLoop thatLeft() {
        OneBitLoop x = with(0, 0, 0);
        due("reach", x.reach(1, 4, 5), -102);
        leavingIs(x, 4, 4);
        return x;
    }

    private static void leaving() {
        promise(28);
        says("SAMPLE i of the row by which the latest reach() that was not BAD, NOT LEAVES;");
        edge("the latest", () -> {
            OneBitLoop x = thatLeft();
            due("reach", x.reach(1, 4, 3), -102);
            leavingIs(x, 2, 4);
        });
        edge("BAD does not count", () -> {
            OneBitLoop x = thatLeft();
            due("turned", x.reach(1, 0, 5), BAD);
            due("most", x.reach(1, 4, 0), BAD);
            leavingIs(x, 4, 4);
        });
        edge("NOT does not count", () -> {
            OneBitLoop x = thatLeft();
            x.lot(1, 0);
            due("reach", x.reach(0, 0, 5), NOT);
            leavingIs(x, 4, 4);
        });
        edge("steps, clear() leave it", () -> {
            OneBitLoop x = thatLeft();
            steps(x, 1);
            x.clear();
            leavingIs(x, 4, 4);
        });
        says("0: it does not, there is none such.");
        edge("before any", () -> leavingIs(new OneBitLoop()));
        edge("it does not", () -> {
            OneBitLoop x = thatLeft();
            due("reach", x.reach(0, 0, 5), 2);
            leavingIs(x);
            due("1", x.leaving(1), 0);
        });
        edge("it was SPENT", () -> {
            OneBitLoop x = thatLeft();
            due("reach", x.reach(2, 2, DEEP), SPENT);
            leavingIs(x);
        });
        edge("it was GREAT", () -> {
            OneBitLoop x = thatLeft();
            x.clear();
            x.stage(4, 0, 100);
            manySteps(x, 11, END);
            due("reach", x.reach(END, END, DEEP), GREAT);
            leavingIs(x);
        });
        for (int i : new int[] {-1, 2, 500, LEAST_INT, MOST_INT}) {
            edge("SAMPLE " + i + " of 2", () -> due("leaving", thatLeft().leaving(i), 0));
        }
        edge("a shorter row has nothing of a longer one", () -> {
            OneBitLoop x = with(0, 0, 0);
            due("long", x.reach(2, 2, 20), -121);
            due("short", x.reach(4, 4, 2), -101);
            leavingIs(x, 4);
            due("19", x.leaving(19), 0);
        });
        edge("SAMPLE 500 of 500", () -> {
            OneBitLoop x = with(0, 0, 0);
            due("reach", x.reach(2, 2, 499), -600);
            due("leaving", x.leaving(500), 0);
        });
    }

    // ---- promises 29 and 30

    /** KIND, a, b of each STAGE. */
    private static final long[][][] LOOPS = {
        {{0, 0, 0}},
        {{1, 100, 0}},
        {{2, 9, 0}},
        {{3, 20, 100}},
        {{4, 50, -3}},
        {{0, 0, 0}, {3, 30, 256}},
        {{4, 7, 5}, {2, 40, 0}, {1, 9, 0}},
        {{0, 0, 0}, {1, 200, 0}, {2, 15, 0}, {3, 12, 17}, {4, 99, 2}},
    };

    private static OneBitLoop loop(int k) {
        OneBitLoop x = new OneBitLoop();
        for (long[] stage : LOOPS[k]) {
            due("stage", x.stage((int) stage[0], stage[1], (int) stage[2]) >= 0);
        }
        x.levels(3, -7, 6);
        return x;
    }

    /** By STEPS of objects: the size and, behind it, the SAMPLES of the first worst row. */
    private static long[] worstBySteps(int k, int n, long low, long high) {
        long[] best = new long[n + 1];
        best[0] = -1;
        for (int row = 0; row < 1 << n; row++) {
            OneBitLoop x = loop(k);
            for (int i = 0; i < n; i++) {
                x.step((row >> n - 1 - i & 1) == 0 ? low : high);
            }
            long size = Math.abs(x.stageAt(x.count(0) - 1, 0));
            if (size > best[0]) {
                best[0] = size;
                for (int i = 0; i < n; i++) {
                    best[1 + i] = x.record(i, 0);
                }
            }
        }
        return best;
    }

    private static void isWorst(int k, int n, long low, long high) {
        long[] best = worstBySteps(k, n, low, high);
        OneBitLoop x = loop(k);
        due("worst of loop " + k + ", n " + n, x.worst(n, low, high), best[0]);
        due("why", x.count(5), 0);
        worstIs(x, java.util.Arrays.copyOfRange(best, 1, n + 1));
    }

    private static void worst() {
        promise(29);
        says("Of all rows of n (1 to 12) SAMPLES, low or high each,");
        for (int k = 0; k < LOOPS.length; k++) {
            int which = k;
            edge("loop " + k, () -> {
                for (int n = 1; n <= 5; n++) {
                    isWorst(which, n, -5, 9);
                    isWorst(which, n, 9, -5);
                    isWorst(which, n, 0, 13);
                }
            });
        }
        edge("12", () -> isWorst(5, 12, -4, 7));
        edge("low as high", () -> isWorst(3, 4, 6, 6));
        edge("the ends", () -> isWorst(0, 2, -END, END));
        for (int n : new int[] {0, -1, 13, LEAST_INT, MOST_INT}) {
            edge("n " + n, () -> worstIsNot(loop(0), n, 0, 1, BAD));
        }
        says("for a TWIN at REST,");
        edge("whatever THE LOOP has KEPT", () -> {
            OneBitLoop x = loop(5);
            steps(x, 30, -3, 12);
            due("worst", x.worst(3, -5, 9), loop(5).worst(3, -5, 9));
        });
        says("the greatest size of what the last STAGE has KEPT behind the n-th.");
        edge("below 0", () -> {
            OneBitLoop x = with(0, 0, 0);
            due("worst", x.worst(1, -9, 3), 10);
            worstIs(x, -9);
        });
        edge("the last STAGE, not the first", () -> {
            OneBitLoop x = with(0, 0, 0);
            x.stage(2, 2, 0);
            due("worst", x.worst(3, -50, 50), 2);
        });
        edge("behind the n-th, not ahead of it", () -> {
            // 13 comes behind an odd number of STEPS alone
            OneBitLoop x = plain(-8, 16);
            due("11", x.worst(11, 5, -5), 13);
            due("12", x.worst(12, 5, -5), 12);
        });
        edge("none", () -> {
            OneBitLoop x = plain(0, 1);
            due("worst", x.worst(3, 0, 0), 0);
            due("why", x.count(5), 0);
            worstIs(x, 0, 0, 0);
        });
    }

    private static void worstIsRefused() {
        says("The least long: BAD;");
        edge("SAMPLES that are none", () -> {
            worstIsNot(loop(0), 1, -END - 1, 0, BAD);
            worstIsNot(loop(0), 1, END + 1, 0, BAD);
            worstIsNot(loop(0), 1, 0, -END - 1, BAD);
            worstIsNot(loop(0), 1, 0, END + 1, BAD);
            worstIsNot(loop(0), 1, LEAST, MOST, BAD);
        });
        edge("ahead of NOT", () -> {
            worstIsNot(new OneBitLoop(), 0, 0, 0, BAD);
            worstIsNot(new OneBitLoop(), 1, END + 1, 0, BAD);
        });
        edge("ahead of GREAT", () -> worstIsNot(with(4, 0, 100), 13, END, END, BAD));
        says("NOT (no STAGES, SPAN is not 0),");
        edge("no STAGES", () -> worstIsNot(new OneBitLoop(), 1, 0, 0, NOT));
        edge("STAGES that were cleared", () -> {
            OneBitLoop x = loop(0);
            x.clear();
            worstIsNot(x, 1, 0, 0, NOT);
        });
        edge("a SPAN of 1", () -> {
            OneBitLoop x = loop(0);
            x.lot(1, 0);
            worstIsNot(x, 1, 0, 0, NOT);
            x.lot(0, 0);
            due("of 0", x.worst(1, 0, 0), 1);
        });
        edge("five STAGES, TURNING too, are not refused", () -> due("worst", loop(7).worst(1, 0, 0) >= 0));
        says("GREAT (some row meets it).");
        edge("the first row", () -> worstIsNot(with(4, 0, 100), 12, END, 0, GREAT));
        edge("the last row", () -> worstIsNot(with(4, 0, 100), 12, 0, END, GREAT));
        edge("none yet", () -> {
            due("11", with(4, 0, 100).worst(11, 0, END), 1111 * END - 11);
            due("below", with(4, 0, 100).worst(11, -END, 0) > DEEP);
        });
        edge("on the way", () -> {
            // of the second STAGE 201, 503, 906, 1410 times END are KEPT
            for (int n = 1; n <= 12; n++) {
                OneBitLoop x = with(4, 0, 100);
                x.stage(4, 0, 100);
                if (n < 4) {
                    due("worst of " + n, x.worst(n, END, -END) > 0);
                } else {
                    worstIsNot(x, n, END, -END, GREAT);
                    worstIsNot(x, n, 0, END, GREAT);
                }
            }
        });
        edge("of a STAGE that is not the last", () -> {
            OneBitLoop x = with(4, 0, 100);
            x.stage(2, 1, 0);
            worstIsNot(x, 12, 0, END, GREAT);
        });
    }

    private static void worstAt() {
        promise(30);
        says("SAMPLE i of the first such row (low ahead of high, by the first in which they part)");
        edge("low ahead of high", () -> {
            OneBitLoop x = plain(-8, 16);
            due("worst", x.worst(1, 16, 0), 8);
            worstIs(x, 16);
            due("worst", x.worst(1, 0, 16), 8);
            worstIs(x, 0);
        });
        edge("by the first in which they part", () -> {
            // each 2 adds 1, each 7 leads to the bound
            OneBitLoop x = with(2, 5, 0);
            x.levels(2, -1000, 1001);
            due("two", x.worst(2, 2, 7), 5);
            worstIs(x, 2, 7);
            due("three", x.worst(3, 2, 7), 5);
            worstIs(x, 2, 2, 7);
            due("turned", x.worst(2, 7, 2), 5);
            worstIs(x, 7, 7);
        });
        edge("the worst one, not the first of all", () -> {
            OneBitLoop x = plain(-8, 16);
            // -5, then 6 or 12; 1, then -4 or 2
            due("worst", x.worst(2, 3, 9), 12);
            worstIs(x, 3, 9);
        });
        edge("12", () -> {
            OneBitLoop x = with(2, 5, 0);
            due("worst", x.worst(12, 7, 7), 5);
            worstIs(x, 7, 7, 7, 7, 7, 7, 7, 7, 7, 7, 7, 7);
        });
        says("of the latest worst() that told one;");
        edge("the latest", () -> {
            OneBitLoop x = plain(-8, 16);
            x.worst(2, 3, 9);
            due("worst", x.worst(1, 16, 0), 8);
            worstIs(x, 16);
        });
        edge("one that was refused told none", () -> {
            OneBitLoop x = plain(-8, 16);
            x.worst(2, 3, 9);
            worstIsNot(x, 0, 5, 5, BAD);
            worstIs(x, 3, 9);
            x.lot(1, 0);
            worstIsNot(x, 1, 5, 5, NOT);
            worstIs(x, 3, 9);
            x.lot(0, 0);
            x.clear();
            x.stage(4, 0, 100);
            worstIsNot(x, 12, 0, END, GREAT);
            worstIs(x, 3, 9);
        });
        edge("steps, clear() leave it", () -> {
            OneBitLoop x = plain(-8, 16);
            x.worst(2, 3, 9);
            steps(x, 1);
            x.clear();
            worstIs(x, 3, 9);
        });
        says("0: there is none such.");
        edge("before any", () -> worstIs(new OneBitLoop()));
        edge("those before were refused", () -> {
            OneBitLoop x = new OneBitLoop();
            x.worst(2, 3, 9);
            worstIs(x);
        });
        for (int i : new int[] {-1, 2, 11, 12, 32, LEAST_INT, MOST_INT}) {
            edge("SAMPLE " + i + " of 2", () -> {
                OneBitLoop x = plain(-8, 16);
                x.worst(2, 3, 9);
                due("worstAt", x.worstAt(i), 0);
            });
        }
        edge("a shorter row has nothing of a longer one", () -> {
            OneBitLoop x = with(2, 5, 0);
            x.worst(12, 7, 7);
            x.worst(1, 8, 8);
            worstIs(x, 8);
            due("11", x.worstAt(11), 0);
        });
    }

    // ---- promises 31 and 32

    private static void count() {
        promise(31);
        says("0 STAGES,");
        edge("0 to 5", () -> {
            OneBitLoop x = new OneBitLoop();
            for (int s = 0; s < 5; s++) {
                due("count", x.count(0), s);
                x.stage(0, 0, 0);
            }
            due("count", x.count(0), 5);
            x.stage(0, 0, 0);
            due("and no more", x.count(0), 5);
        });
        says("1 LEVELS,");
        edge("2 to 16", () -> {
            OneBitLoop x = new OneBitLoop();
            due("at first", x.count(1), 2);
            for (int n = 2; n <= 16; n++) {
                x.levels(n, 0, 1);
                due("count", x.count(1), n);
            }
        });
        says("2 STEPS in THE RECORD,");
        edge("0, 300", () -> {
            OneBitLoop x = new OneBitLoop();
            due("none", x.count(2), 0);
            manySteps(x, 300, 0);
            due("300", x.count(2), 300);
            x.step(0);
            due("and no more", x.count(2), 300);
            x.undo(100);
            due("200", x.count(2), 200);
            x.clear();
            due("none", x.count(2), 0);
        });
        says("3 numbers in THE TRACE,");
        edge("0, 15, 0", () -> {
            OneBitLoop x = new OneBitLoop();
            due("none", x.count(3), 0);
            for (int s = 0; s < 5; s++) {
                x.stage(3, 1, 1);
            }
            due("none yet", x.count(3), 0);
            steps(x, 1);
            due("15", x.count(3), 15);
            steps(x, 1);
            due("15 again", x.count(3), 15);
            x.clear();
            steps(x, 1);
            due("none", x.count(3), 0);
        });
        says("4 the number of the latest FINDING (0 before any),");
        edge("before any", () -> due("count", new OneBitLoop().count(4), 0));
        edge("each of them, the latest", () -> {
            OneBitLoop x = withReel(2, 1);
            x.reel(1, 3, 1);
            due("size", x.reel(2, 0, -1), SIZE);
            due("count", x.count(4), 5);
            due("store", x.copy(0, 0, 1, 0, 1), STORE);
            due("count", x.count(4), 4);
            due("cast", x.put(0, 3, 0, 0), CAST);
            due("count", x.count(4), 3);
            due("index", x.put(0, 2, 1, 0), INDEX);
            due("count", x.count(4), 2);
            due("null", x.lose(2), NULL);
            due("count", x.count(4), 1);
        });
        edge("those of get(), sample(), run()", () -> {
            OneBitLoop x = withReel(2, 1);
            x.get(0, 3, 0);
            due("get", x.count(4), 3);
            x.sample(0, 5);
            due("sample", x.count(4), 2);
            x.run(1, 0, 1);
            due("run", x.count(4), 1);
        });
        edge("what is done, or refused without one, leaves it", () -> {
            OneBitLoop x = withReel(2, 1);
            x.get(0, 3, 0);
            x.put(0, 2, 0, 5);
            x.put(6, 2, 0, 5);
            x.lose(0);
            x.clear();
            x.step(END + 1);
            due("count", x.count(4), 3);
        });
        says("5 why the latest worst() was refused (BAD, NOT, GREAT; 0: it was not, or before any).");
        edge("before any", () -> due("count", new OneBitLoop().count(5), 0));
        edge("each of them, and none", () -> {
            OneBitLoop x = new OneBitLoop();
            worstIsNot(x, 1, 0, 0, NOT);
            worstIsNot(x, 0, 0, 0, BAD);
            x.stage(4, 0, 100);
            worstIsNot(x, 12, 0, END, GREAT);
            due("worst", x.worst(1, 0, 0), 1);
            due("it was not", x.count(5), 0);
        });
        edge("other refusals do not count", () -> {
            OneBitLoop x = new OneBitLoop();
            x.step(END + 1);
            x.reach(0, 0, 5);
            x.hold(0, 0);
            due("count", x.count(5), 0);
        });
        says("BAD.");
        for (int what : new int[] {-1, 6, LEAST_INT, MOST_INT}) {
            edge("what " + what, () -> due("count", new OneBitLoop().count(what), BAD));
        }
    }

    private static void digest() {
        promise(32);
        says("h is 17; h becomes 31 h and each of:");
        edge("of a new object", () -> due("digest", new OneBitLoop().digest(), ((17 * 31 - 1) * 31 + 1) * 31));
        says("of each STAGE stageAt() 0 to 6,");
        edge("five of them", () -> {
            OneBitLoop x = loop(7);
            steps(x, 50, -20, 33);
            digestIs(x, 0);
        });
        edge("by hand", () -> {
            OneBitLoop x = with(3, 5, 256);
            steps(x, 9);
            long h = 17;
            // kept, beside, came, told, lost, cut, kind, levels, seed, sample, level
            for (long number : new long[] {5, 5, 9, 1, 0, 3, 3, -1, 1, 0, 9, 1}) {
                h = h * 31 + number;
            }
            due("digest", x.digest(), h);
        });
        says("the LEVELS,");
        edge("2 and 16", () -> {
            OneBitLoop x = new OneBitLoop();
            x.levels(2, END - 5, 5);
            digestIs(x, 0);
            x.levels(16, -END, 1000000000);
            digestIs(x, 0);
            x.levels(3, 4, 5);
            digestIs(x, 0);
        });
        says("the SEED,");
        edge("as it is now", () -> {
            OneBitLoop x = new OneBitLoop();
            x.lot(1, MOST);
            digestIs(x, MOST);
            steps(x, 0, 0);
            digestIs(x, nextSeed(nextSeed(MOST)));
        });
        says("of each STEP record() 0, 1;");
        edge("none, and 100", () -> {
            OneBitLoop x = with(1, 9, 0);
            digestIs(x, 0);
            manySteps(x, 100, 77);
            digestIs(x, 0);
        });
        edge("as forged, without what is KEPT", () -> {
            OneBitLoop x = with(0, 0, 0);
            steps(x, 5, 6);
            x.forge(0, 0, -END);
            x.forge(1, 1, LEAST);
            digestIs(x, 0);
            long was = x.digest();
            x.forge(1, 2, 99);
            due("digest", x.digest(), was);
        });
        says("as longs that wrap.");
        edge("ends of longs", () -> {
            OneBitLoop x = new OneBitLoop();
            x.lot(0, LEAST);
            steps(x, 1, 2, 3);
            for (int t = 0; t < 3; t++) {
                x.forge(t, 1, t == 1 ? LEAST : MOST);
            }
            java.math.BigInteger h = java.math.BigInteger.valueOf(17);
            for (long number : new long[] {-1, 1, LEAST, 1, MOST, 2, LEAST, 3, MOST}) {
                h = h.multiply(java.math.BigInteger.valueOf(31)).add(java.math.BigInteger.valueOf(number));
            }
            due("digest", x.digest(), h.longValue());
        });
    }
}
