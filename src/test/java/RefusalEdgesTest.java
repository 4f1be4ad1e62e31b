import java.util.ArrayList;
import java.util.List;

/** The sentences on refusals in "Terms": which comes first, and that nothing is changed. */
public final class RefusalEdgesTest extends Edges {
    private interface Call {
        long on(OneBitLoop x);
    }

    private interface Maker {
        OneBitLoop make();
    }

    public static void main(String[] args) {
        open("Refusals, ", "Ahead of the calls `reel`");
        theOrder();
        nothingIsChanged();
        end();
    }

    // ---- objects in the midst of their use

    /** All there is: REELS, what was told, STAGES of each KIND, LOTS, a RECORD that was forged. */
    private static OneBitLoop busy() {
        OneBitLoop x = with(0, 0, 0);
        x.levels(2, -8, 16);
        due("hold", x.hold(3, 99), 0);
        due("reach", x.reach(20, 22, 9), -101);
        due("worst", x.worst(2, 3, 9), 12);
        x.clear();
        for (int kind = 0; kind < 5; kind++) {
            due("stage", x.stage(kind, kind == 0 ? 0 : 20, kind < 3 ? 0 : 50), kind);
        }
        x.levels(4, -10, 7);
        x.lot(5, 77);
        fill(x, 0, 2, 5, -6, 7);
        fill(x, 1, 5, -1, 2, 3, 4);
        fill(x, 2, 2, 8);
        for (int j = 0; j < 8; j++) {
            x.weight(j, 3 * j - 5);
        }
        steps(x, 30, -4, 9);
        x.forge(1, 0, 100);
        x.forge(1, 3, 200);
        due("a finding", x.put(0, 3, 0, 0), CAST);
        return x;
    }

    /** One STAGE, no LOTS, no STEPS. */
    private static OneBitLoop calm() {
        OneBitLoop x = busy();
        x.clear();
        x.lot(0, 9);
        due("stage", x.stage(0, 0, 0), 0);
        return x;
    }

    private static OneBitLoop full() {
        OneBitLoop x = with(4, 0, 100);
        manySteps(x, 289, 3);
        manySteps(x, 11, END);
        return x;
    }

    private static OneBitLoop nearGreat() {
        OneBitLoop x = with(4, 0, 100);
        x.stage(2, 3, 0);
        manySteps(x, 11, END);
        return x;
    }

    /** What can be asked of an object, but for the latest FINDING and why worst() was refused. */
    private static List<Long> all(OneBitLoop x) {
        List<Long> told = new ArrayList<>();
        for (int what = 0; what < 4; what++) {
            told.add((long) x.count(what));
        }
        told.add(x.digest());
        told.add((long) x.check());
        for (int k = 0; k < 35; k++) {
            told.add(x.stageAt(k / 7, k % 7));
        }
        for (int k = 0; k < 16; k++) {
            told.add(x.levelAt(k));
            told.add((long) x.trace(k));
        }
        int first = Math.max(0, x.count(2) - 4);
        for (int k = 0; k < 28; k++) {
            told.add(x.record(first + k / 7, k % 7));
        }
        for (int i = 0; i < 4; i++) {
            told.add(x.held(i));
            told.add(x.leaving(i));
            told.add(x.worstAt(i));
            told.add(x.read(first + i));
        }
        for (int j = 0; j < 8; j++) {
            told.add((long) x.weight(j, 0));
        }
        addReels(x, told);
        addWhatComesThen(x, told);
        return told;
    }

    private static void addReels(OneBitLoop x, List<Long> told) {
        for (int r = 0; r < 6; r++) {
            for (int i = 0; i < 5; i++) {
                told.add(x.get(r, 2, i));
                told.add(x.get(r, 5, i));
                told.add(x.sample(r, i));
            }
            told.add((long) x.lose(r));
        }
    }

    /** A STEP more, some back, and the SEED and SPAN at the beginning. */
    private static void addWhatComesThen(OneBitLoop x, List<Long> told) {
        told.add((long) x.step(2));
        told.add(x.digest());
        told.add((long) x.undo(Math.min(2, x.count(2))));
        told.add(x.digest());
        told.add((long) x.clear());
        for (int t = 0; t < 3; t++) {
            told.add((long) x.step(1));
            told.add(x.digest());
        }
    }

    /** Two objects alike, one of which refuses a call: they stay alike. */
    private static void refused(String name, Maker maker, Call call, long want) {
        edge(name, () -> {
            OneBitLoop x = maker.make();
            OneBitLoop y = maker.make();
            due(name, call.on(x), want);
            due("again", call.on(x), want);
            boolean isFinding = want <= NULL && want >= SIZE;
            due("count(4)", x.count(4), isFinding ? -10 - want : y.count(4));
            due("count(5)", x.count(5), y.count(5));
            due("nothing else is changed", all(x).equals(all(y)));
        });
    }

    /** One that answers 0 or the least number: what it finds, and why worst() was refused. */
    private static void refusedSo(String name, Maker maker, Call call, long want, int finding, int why) {
        edge(name, () -> {
            OneBitLoop x = maker.make();
            OneBitLoop y = maker.make();
            due(name, call.on(x), want);
            due("count(4)", x.count(4), finding == 0 ? y.count(4) : finding);
            due("count(5)", x.count(5), why);
            due("nothing else is changed", all(x).equals(all(y)));
        });
    }

    // ---- the order

    private static void theOrder() {
        says("the first that fits:");
        edge("BAD, STATE, FULL of stage()", () -> {
            OneBitLoop x = busy();
            due("all three", x.stage(5, 0, 0), BAD);
            due("two", x.stage(0, 0, 0), STATE);
            x.undo(3);
            due("one", x.stage(0, 0, 0), FULL);
            due("first and last", x.stage(5, 0, 0), BAD);
        });
        edge("BAD, FULL, GREAT of step()", () -> {
            OneBitLoop x = full();
            due("all three", x.step(END + 1), BAD);
            due("two", x.step(END), FULL);
            x.undo(1);
            steps(x, END);
            x.undo(1);
            due("none", x.step(END), 1);
        });
        edge("BAD, GREAT of step()", () -> {
            due("both", nearGreat().step(END + 1), BAD);
            due("one", nearGreat().step(END), GREAT);
        });
        edge("BAD, STATE of levels(), level(), lot()", () -> {
            due("levels", busy().levels(1, 0, 1), BAD);
            due("levels", busy().levels(2, 0, 1), STATE);
            due("level", busy().level(0, 0), BAD);
            due("level", busy().level(0, -11), STATE);
            due("lot", busy().lot(-1, 0), BAD);
            due("lot", busy().lot(0, 0), STATE);
        });
        edge("BAD, NOT of reach(), worst()", () -> {
            due("reach", busy().reach(1, 0, 1), BAD);
            due("reach", busy().reach(0, 1, 1), NOT);
            OneBitLoop x = busy();
            due("worst", x.worst(13, 0, 1), LEAST);
            due("why", x.count(5), BAD);
            due("worst", x.worst(12, 0, 1), LEAST);
            due("why", x.count(5), NOT);
        });
        edge("NOT of reach() ahead of GREAT", () -> {
            OneBitLoop x = with(4, 0, 100);
            x.lot(1, 0);
            manySteps(x, 11, END);
            due("reach", x.reach(END, END, DEEP), NOT);
        });
        edge("NOT of worst() ahead of GREAT", () -> {
            OneBitLoop x = with(4, 0, 100);
            x.lot(1, 0);
            due("worst", x.worst(12, END, END), LEAST);
            due("why", x.count(5), NOT);
        });
        edge("BAD, then FINDINGS", () -> {
            due("reel", busy().reel(6, 0, -1), BAD);
            due("put", busy().put(5, 6, 0, 0), BAD);
            due("copy", busy().copy(6, 0, 5, 0, 0), BAD);
            due("run", busy().run(5, -1, 0), BAD);
        });
        says("BAD -2 (a number not as told, no such thing),");
        edge("a number", () -> due("step", new OneBitLoop().step(END + 1), -2));
        edge("no such thing", () -> due("lose", new OneBitLoop().lose(6), -2));
        says("STATE -3,");
        edge("a STEP was made", () -> due("lot", busy().lot(0, 0), -3));
        says("FULL -4,");
        edge("300 STEPS", () -> due("step", full().step(0), -4));
        says("SPENT -5,");
        edge("it does not come round", () -> due("hold", calm().hold(12, 9), -5));
        says("GREAT -6,");
        edge("2 to the 50", () -> due("step", nearGreat().step(END), -6));
        says("NOT -7 (as told),");
        edge("STAGES", () -> due("reach", new OneBitLoop().reach(0, 0, 1), -7));
        says("FINDINGS.");
        edge("they are no BAD", () -> {
            due("null", busy().lose(5), -11);
            due("index", busy().put(0, 2, 3, 0), -12);
            due("cast", busy().put(0, 3, 0, 0), -13);
            due("store", busy().copy(0, 0, 1, 0, 0), -14);
            due("size", busy().reel(0, 0, -1), -15);
        });
    }

    // ---- nothing is changed

    private static void nothingIsChanged() {
        says("They change nothing but as told.");
        edge("objects alike are alike, and a call that is done makes them unlike", () -> {
            due("alike", all(busy()).equals(all(busy())));
            OneBitLoop x = busy();
            x.put(2, 2, 0, 9);
            due("unlike", !all(x).equals(all(busy())));
            x = busy();
            x.weight(7, 1);
            due("unlike", !all(x).equals(all(busy())));
            x = calm();
            x.lot(1, 9);
            due("unlike", !all(x).equals(all(calm())));
        });
        ofReels();
        ofTheLoop();
        ofAsks();
        ofWhatCanCome();
    }

    private static void ofReels() {
        Maker m = RefusalEdgesTest::busy;
        refused("reel(6, 0, 1)", m, x -> x.reel(6, 0, 1), BAD);
        refused("reel(0, 6, 1)", m, x -> x.reel(0, 6, 1), BAD);
        refused("reel(0, 0, 61)", m, x -> x.reel(0, 0, 61), BAD);
        refused("reel(0, 0, -1)", m, x -> x.reel(0, 0, -1), SIZE);
        refused("reel(5, 0, -1)", m, x -> x.reel(5, 0, -1), SIZE);
        refused("lose(-1)", m, x -> x.lose(-1), BAD);
        refused("lose(4)", m, x -> x.lose(4), NULL);
        refused("put(6, 2, 0, 1)", m, x -> x.put(6, 2, 0, 1), BAD);
        refused("put(0, 6, 0, 1)", m, x -> x.put(0, 6, 0, 1), BAD);
        refused("put(4, 2, 0, 1)", m, x -> x.put(4, 2, 0, 1), NULL);
        refused("put(0, 3, 0, 1)", m, x -> x.put(0, 3, 0, 1), CAST);
        refused("put(0, 2, 3, 1)", m, x -> x.put(0, 2, 3, 1), INDEX);
        refused("put(0, 2, -1, 1)", m, x -> x.put(0, 2, -1, 1), INDEX);
        refused("copy(0, 0, 6, 0, 1)", m, x -> x.copy(0, 0, 6, 0, 1), BAD);
        refused("copy(0, 0, 4, 0, 1)", m, x -> x.copy(0, 0, 4, 0, 1), NULL);
        refused("copy(4, 0, 0, 0, 1)", m, x -> x.copy(4, 0, 0, 0, 1), NULL);
        refused("copy(0, 0, 1, 0, 1)", m, x -> x.copy(0, 0, 1, 0, 1), STORE);
        refused("copy(0, 0, 2, 0, 2)", m, x -> x.copy(0, 0, 2, 0, 2), INDEX);
        refused("copy(0, 2, 0, 0, 2)", m, x -> x.copy(0, 2, 0, 0, 2), INDEX);
        refused("copy(0, 0, 0, 1, 3)", m, x -> x.copy(0, 0, 0, 1, 3), INDEX);
        refusedSo("get(6, 2, 0)", m, x -> x.get(6, 2, 0), 0, 0, 0);
        refusedSo("get(0, 6, 0)", m, x -> x.get(0, 6, 0), 0, 0, 0);
        refusedSo("get(4, 2, 0)", m, x -> x.get(4, 2, 0), 0, 1, 0);
        refusedSo("get(0, 3, 0)", m, x -> x.get(0, 3, 0), 0, 3, 0);
        refusedSo("get(0, 2, 3)", m, x -> x.get(0, 2, 3), 0, 2, 0);
        refusedSo("sample(6, 0)", m, x -> x.sample(6, 0), 0, 0, 0);
        refusedSo("sample(4, 0)", m, x -> x.sample(4, 0), 0, 1, 0);
        refusedSo("sample(0, 3)", m, x -> x.sample(0, 3), 0, 2, 0);
    }

    private static void ofTheLoop() {
        Maker m = RefusalEdgesTest::busy;
        refused("stage(5, 0, 0)", m, x -> x.stage(5, 0, 0), BAD);
        refused("stage(2, 0, 0)", m, x -> x.stage(2, 0, 0), BAD);
        refused("stage(0, 0, 0)", m, x -> x.stage(0, 0, 0), STATE);
        refused("stage(2, 0, 0) without STEPS", RefusalEdgesTest::calm, x -> x.stage(2, 0, 0), BAD);
        refused("a sixth stage", () -> {
            OneBitLoop x = calm();
            for (int s = 1; s < 5; s++) {
                x.stage(4, 5, 6);
            }
            return x;
        }, x -> x.stage(1, 1, 0), FULL);
        refused("levels(17, 0, 1)", RefusalEdgesTest::calm, x -> x.levels(17, 0, 1), BAD);
        refused("levels(16, END, 1)", RefusalEdgesTest::calm, x -> x.levels(16, END, 1), BAD);
        refused("levels(3, 0, 1)", m, x -> x.levels(3, 0, 1), STATE);
        refused("level(1, 100)", RefusalEdgesTest::calm, x -> x.level(1, 100), BAD);
        refused("level(4, 100)", RefusalEdgesTest::calm, x -> x.level(4, 100), BAD);
        refused("level(1, 0)", m, x -> x.level(1, 0), STATE);
        refused("lot(-1, 5)", RefusalEdgesTest::calm, x -> x.lot(-1, 5), BAD);
        refused("lot(1, 5)", m, x -> x.lot(1, 5), STATE);
        refused("step(END + 1)", m, x -> x.step(END + 1), BAD);
        refused("a step more than 300", RefusalEdgesTest::full, x -> x.step(0), FULL);
        refused("a great step", RefusalEdgesTest::nearGreat, x -> x.step(END), GREAT);
        refused("run(6, 0, 1)", m, x -> x.run(6, 0, 1), BAD);
        refused("run(0, 0, 0)", m, x -> x.run(0, 0, 0), BAD);
        refused("run(0, 0, 301)", m, x -> x.run(0, 0, 301), BAD);
        refused("run(4, 0, 1)", m, x -> x.run(4, 0, 1), NULL);
        refused("run(0, 3, 1)", m, x -> x.run(0, 3, 1), INDEX);
        refused("run(0, -1, 3)", m, x -> x.run(0, -1, 3), INDEX);
        refused("a run of more than 300", RefusalEdgesTest::full, x -> x.run(5, 0, 9), FULL);
        refused("a great run", RefusalEdgesTest::nearGreat, x -> x.run(5, 0, 9), GREAT);
        refused("undo(4)", m, x -> x.undo(4), BAD);
        refused("undo(-1)", m, x -> x.undo(-1), BAD);
    }

    private static void ofAsks() {
        Maker m = RefusalEdgesTest::busy;
        refusedSo("stageAt(5, 0)", m, x -> x.stageAt(5, 0), LEAST, 0, 0);
        refusedSo("levelAt(4)", m, x -> x.levelAt(4), LEAST, 0, 0);
        refusedSo("record(3, 0)", m, x -> x.record(3, 0), LEAST, 0, 0);
        refused("forge(3, 1, 5)", m, x -> x.forge(3, 1, 5), BAD);
        refused("forge(0, 7, 5)", m, x -> x.forge(0, 7, 5), BAD);
        refused("forge(0, 0, END + 1)", m, x -> x.forge(0, 0, END + 1), BAD);
        refused("check()", m, x -> x.check(), 1);
        refusedSo("read(3)", m, x -> x.read(3), 0, 0, 0);
        refusedSo("weight(8, 5)", m, x -> x.weight(8, 5), LEAST_INT, 0, 0);
        refusedSo("sums(5, 0)", m, x -> x.sums(5, 0), 0, 0, 0);
        refused("trace(99)", m, x -> x.trace(99), NONE);
    }

    private static void ofWhatCanCome() {
        Maker m = RefusalEdgesTest::busy;
        Maker calm = RefusalEdgesTest::calm;
        refused("hold(END + 1, 9)", calm, x -> x.hold(END + 1, 9), BAD);
        refused("hold(1, 401)", calm, x -> x.hold(1, 401), BAD);
        refused("hold(1, 9)", m, x -> x.hold(1, 9), SPENT);
        refused("hold(END, 9)", RefusalEdgesTest::nearGreat, x -> x.hold(END, 9), GREAT);
        refusedSo("held(3)", m, x -> x.held(3), LEAST, 0, 0);
        refused("reach(0, 7, 5)", calm, x -> x.reach(0, 7, 5), BAD);
        refused("reach(0, 0, 0)", calm, x -> x.reach(0, 0, 0), BAD);
        refused("reach(0, 1, 5)", m, x -> x.reach(0, 1, 5), NOT);
        refused("a spent reach", () -> with(0, 0, 0), x -> x.reach(2, 2, DEEP), SPENT);
        refused("a great reach", RefusalEdgesTest::nearGreat, x -> x.reach(END, END, DEEP), GREAT);
        refusedSo("worst(13, 0, 1)", calm, x -> x.worst(13, 0, 1), LEAST, 0, BAD);
        refusedSo("worst(1, 0, END + 1)", calm, x -> x.worst(1, 0, END + 1), LEAST, 0, BAD);
        refusedSo("worst(1, 0, 1)", m, x -> x.worst(1, 0, 1), LEAST, 0, NOT);
        refusedSo("a great worst", RefusalEdgesTest::nearGreat, x -> x.worst(12, END, 0), LEAST, 0, GREAT);
        refusedSo("leaving(9)", m, x -> x.leaving(9), 0, 0, 0);
        refusedSo("worstAt(9)", m, x -> x.worstAt(9), 0, 0, 0);
        refused("count(6)", m, x -> x.count(6), BAD);
    }
}
