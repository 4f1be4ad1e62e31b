/** The sentences on REELS: the first part of "Terms", and promises 1 to 7. */
public final class ReelEdgesTest extends Edges {
    private static final long NO_FLOAT = 0x7FC00000L, NO_DOUBLE = 0x7FF8000000000000L;
    private static final long FLOAT_WITHOUT_END = 0x7F800000L, DOUBLE_WITHOUT_END = 0x7FF0000000000000L;

    public static void main(String[] args) {
        whatItIs();
        rows();
        bits();
        samples();
        noNumber();
        findings();
        newObject();
        reel();
        lose();
        put();
        get();
        copy();
        sample();
        end();
    }

    private static long heldAs(int form, long bits) {
        return withReel(form, bits).get(0, form, 0);
    }

    private static long sampleOf(int form, long bits) {
        return withReel(form, bits).sample(0, 0);
    }

    private static void floatIs(float f, long want) {
        due("the sample of " + f + "f", sampleOf(4, Float.floatToRawIntBits(f)), want);
    }

    private static void doubleIs(double d, long want) {
        due("the sample of " + d, sampleOf(5, Double.doubleToRawLongBits(d)), want);
    }

    // ---- Terms

    private static void whatItIs() {
        open("======== 1 ", "## The public face");
        says("REELS 0 ..");
        edge("REEL 0 is there", () -> due("reel", new OneBitLoop().reel(0, 0, 1), 1));
        edge("REEL 5 is there", () -> due("reel", new OneBitLoop().reel(5, 0, 1), 1));
        edge("REEL -1 is not", () -> due("reel", new OneBitLoop().reel(-1, 0, 1), BAD));
        edge("REEL 6 is not", () -> due("reel", new OneBitLoop().reel(6, 0, 1), BAD));
        edge("each is of its own", () -> {
            OneBitLoop x = new OneBitLoop();
            for (int r = 0; r < 6; r++) {
                fill(x, r, 3, 100 + r, 200 + r);
            }
            for (int r = 0; r < 6; r++) {
                itemsAre(x, r, 3, 100 + r, 200 + r);
            }
        });
        says("An object is used for at most 512 calls after it has been made; what later calls answer is free.");
        edge("the 512th call answers as the first ones do", () -> {
            OneBitLoop x = with(0, 0, 0);
            for (int call = 1; call < 511; call++) {
                due("step", x.step(0), call > 300 ? FULL : call % 2);
            }
            due("check", x.check(), NONE);
        });
    }

    private static void rows() {
        open("## Terms ", "======== 2");
        says("5 are LOST (at first)");
        for (int r = 0; r < 6; r++) {
            int reel = r;
            edge("REEL " + r, () -> due("lose", new OneBitLoop().lose(reel), NULL));
        }
        says("or a row of a FORM: 0 bytes, 1 shorts, 2 ints, 3 longs, 4 floats, 5 doubles,");
        edge("bytes", () -> due("most", sampleOf(0, 0x7F) - sampleOf(0, 0x80), 0xFF));
        edge("shorts", () -> due("most", sampleOf(1, 0x7FFF) - sampleOf(1, 0x8000), 0xFFFF));
        edge("ints", () -> due("most", sampleOf(2, 0x7FFFFFFFL) - sampleOf(2, 0x80000000L), 0xFFFFFFFFL));
        edge("longs", () -> due("above ints", sampleOf(3, 0x100000000L), 0x100000000L));
        edge("floats", () -> due("1.0f", sampleOf(4, 0x3F800000L), 1));
        edge("doubles", () -> due("1.0", sampleOf(5, 0x3FF0000000000000L), 1));
        edge("no FORM -1", () -> due("reel", new OneBitLoop().reel(0, -1, 1), BAD));
        edge("no FORM 6", () -> due("reel", new OneBitLoop().reel(0, 6, 1), BAD));
        says("of 0 to 60 items");
        for (int f = 0; f < 6; f++) {
            int form = f;
            edge("FORM " + f + " of no items", () -> {
                OneBitLoop x = new OneBitLoop();
                due("reel", x.reel(0, form, 0), 0);
                due("put", x.put(0, form, 0, 1), INDEX);
            });
            edge("FORM " + f + " of 60 items", () -> {
                OneBitLoop x = new OneBitLoop();
                due("reel", x.reel(0, form, 60), 60);
                due("put 59", x.put(0, form, 59, 1), 1);
                due("put 60", x.put(0, form, 60, 1), INDEX);
                due("get 59", x.get(0, form, 59), 1);
            });
            edge("FORM " + f + " not of 61", () -> due("reel", new OneBitLoop().reel(0, form, 61), BAD));
        }
        says("(0 at first).");
        for (int f = 0; f < 6; f++) {
            int form = f;
            edge("FORM " + f, () -> {
                OneBitLoop x = new OneBitLoop();
                x.reel(2, form, 60);
                for (int i = 0; i < 60; i++) {
                    due("get", x.get(2, form, i), 0);
                    due("sample", x.sample(2, i), 0);
                }
                due("no finding", x.count(4), 0);
            });
        }
    }

    private static void bits() {
        says("BITS: of FORMS 0 to 3 the lowest that an item has,");
        edge("a byte's 8", () -> {
            due("0x7F", heldAs(0, 0x7F), 127);
            due("0x80", heldAs(0, 0x80), -128);
            due("0xFF", heldAs(0, 0xFF), -1);
            due("0x100", heldAs(0, 0x100), 0);
            due("the least long", heldAs(0, LEAST), 0);
            due("-129", heldAs(0, -129), 127);
        });
        edge("a short's 16", () -> {
            due("0x7FFF", heldAs(1, 0x7FFF), 32767);
            due("0x8000", heldAs(1, 0x8000), -32768);
            due("0x10000", heldAs(1, 0x10000), 0);
            due("0x17FFF", heldAs(1, 0x17FFF), 32767);
            due("-32769", heldAs(1, -32769), 32767);
        });
        edge("an int's 32", () -> {
            due("0x7FFFFFFF", heldAs(2, 0x7FFFFFFFL), MOST_INT);
            due("0x80000000", heldAs(2, 0x80000000L), LEAST_INT);
            due("0x100000000", heldAs(2, 0x100000000L), 0);
            due("below ints", heldAs(2, LEAST_INT - 1L), MOST_INT);
        });
        edge("a long's 64", () -> {
            due("the least", heldAs(3, LEAST), LEAST);
            due("the most", heldAs(3, MOST), MOST);
            due("-1", heldAs(3, -1), -1);
        });
        edge("bits of no number are a number as an int, a long", () -> {
            due("int", heldAs(2, 0x7FC00001L), 0x7FC00001L);
            due("long", heldAs(3, 0x7FF8000000000001L), 0x7FF8000000000001L);
        });
        says("of 4 its 32 bits");
        edge("those above are let go", () -> {
            due("1.0f", heldAs(4, 0x123456783F800000L), 0x3F800000L);
            due("above alone", heldAs(4, 0xFFFFFFFF00000000L), 0);
            due("above, without end", heldAs(4, 0x17F800000L), FLOAT_WITHOUT_END);
        });
        edge("the sign", () -> {
            due("-0.0f", heldAs(4, 0x80000000L), LEAST_INT);
            due("-1.0f", heldAs(4, 0xBF800000L), 0xFFFFFFFFBF800000L);
        });
        edge("without end is a number", () -> {
            due("above", heldAs(4, FLOAT_WITHOUT_END), FLOAT_WITHOUT_END);
            due("below", heldAs(4, 0xFF800000L), 0xFFFFFFFFFF800000L);
        });
        edge("the least and the most", () -> {
            due("the least", heldAs(4, 1), 1);
            due("the most", heldAs(4, 0x7F7FFFFFL), 0x7F7FFFFFL);
        });
        says("(what is no number 0x7FC00000),");
        for (long bits : new long[] {0x7F800001L, 0x7FBFFFFFL, NO_FLOAT, 0x7FC00001L, 0x7FFFFFFFL, 0xFF800001L,
            0xFFC00000L, 0xFFFFFFFFL, -1L, LEAST | 0x7F800001L}) {
            edge("0x" + Long.toHexString(bits), () -> due("get", heldAs(4, bits), NO_FLOAT));
        }
        says("of 5 its 64 bits");
        edge("all of them", () -> {
            due("the least", heldAs(5, 1), 1);
            due("-0.0", heldAs(5, LEAST), LEAST);
            due("the most", heldAs(5, 0x7FEFFFFFFFFFFFFFL), 0x7FEFFFFFFFFFFFFFL);
            due("without end", heldAs(5, DOUBLE_WITHOUT_END), DOUBLE_WITHOUT_END);
            due("without end, below", heldAs(5, LEAST | DOUBLE_WITHOUT_END), LEAST | DOUBLE_WITHOUT_END);
            due("a float's no number", heldAs(5, 0x7FC00001L), 0x7FC00001L);
        });
        says("(0x7FF8000000000000).");
        for (long bits : new long[] {DOUBLE_WITHOUT_END + 1, 0x7FF00000FFFFFFFFL, NO_DOUBLE - 1, NO_DOUBLE,
            NO_DOUBLE + 1, MOST, LEAST | DOUBLE_WITHOUT_END + 1, LEAST | NO_DOUBLE, -1L}) {
            edge("0x" + Long.toHexString(bits), () -> due("get", heldAs(5, bits), NO_DOUBLE));
        }
    }

    private static void samples() {
        says("The SAMPLE of an item: the number as a long (as this language makes one of floats and doubles: "
            + "cut toward 0, to the ends of a long),");
        edge("a byte, a short, an int, a long with their sign", () -> {
            due("byte", sampleOf(0, 0x80), -128);
            due("short", sampleOf(1, 0x8000), -32768);
            due("int", sampleOf(2, 0x80000000L), LEAST_INT);
            due("long", sampleOf(3, -5), -5);
        });
        edge("floats are cut toward 0", () -> {
            floatIs(0.99999994f, 0);
            floatIs(-0.99999994f, 0);
            floatIs(1f, 1);
            floatIs(-1f, -1);
            floatIs(1.9999999f, 1);
            floatIs(-1.9999999f, -1);
            floatIs(2f, 2);
            floatIs(8388607.5f, 8388607);
            floatIs(-8388607.5f, -8388607);
        });
        edge("floats that are whole", () -> {
            floatIs(8388608f, 8388608);
            floatIs(16777215f, 16777215);
            floatIs(16777216f, 16777216);
            floatIs(-16777218f, -16777218);
            floatIs(549755813888f, 549755813888L);
        });
        edge("floats that are hardly any", () -> {
            floatIs(-0f, 0);
            floatIs(Float.MIN_VALUE, 0);
            floatIs(-Float.MIN_VALUE, 0);
            floatIs(Float.MIN_NORMAL, 0);
        });
        edge("doubles are cut toward 0", () -> {
            doubleIs(0.9999999999999999, 0);
            doubleIs(-0.9999999999999999, 0);
            doubleIs(1, 1);
            doubleIs(-1, -1);
            doubleIs(-1.9999999999999998, -1);
            doubleIs(2.9999999999999996, 2);
            doubleIs(999999999999.9999, 999999999999L);
            doubleIs(-999999999999.9999, -999999999999L);
        });
        edge("doubles that are hardly any", () -> {
            doubleIs(-0d, 0);
            doubleIs(Double.MIN_VALUE, 0);
            doubleIs(-Double.MIN_VALUE, 0);
            doubleIs(Double.MIN_NORMAL, 0);
        });
        says("then cut to -1000000000000 .. 1000000000000;");
        edge("longs", () -> {
            due("within", sampleOf(3, END - 1), END - 1);
            due("the end", sampleOf(3, END), END);
            due("beyond", sampleOf(3, END + 1), END);
            due("the most", sampleOf(3, MOST), END);
            due("within, below", sampleOf(3, 1 - END), 1 - END);
            due("the end, below", sampleOf(3, -END), -END);
            due("beyond, below", sampleOf(3, -END - 1), -END);
            due("the least", sampleOf(3, LEAST), -END);
        });
        edge("floats", () -> {
            floatIs(999999930000f, 999999930368L);
            floatIs(1000000060000f, END);
            floatIs(-1000000060000f, -END);
            floatIs(1099511600000f, END);
            floatIs(1099511627776f, END);
            floatIs(9223372036854775808f, END);
            floatIs(Float.MAX_VALUE, END);
            floatIs(-Float.MAX_VALUE, -END);
            floatIs(Float.POSITIVE_INFINITY, END);
            floatIs(Float.NEGATIVE_INFINITY, -END);
        });
        edge("doubles", () -> {
            doubleIs(1e12, END);
            doubleIs(1000000000000.9999, END);
            doubleIs(1000000000001.0, END);
            doubleIs(-1e12, -END);
            doubleIs(-1000000000001.0, -END);
            doubleIs(1099511627775.9999, END);
            doubleIs(1099511627776.0, END);
            doubleIs(9007199254740993.0, END);
            doubleIs(-9223372036854775808.0, -END);
            doubleIs(1e19, END);
            doubleIs(-1e19, -END);
            doubleIs(Double.MAX_VALUE, END);
            doubleIs(-Double.MAX_VALUE, -END);
            doubleIs(Double.POSITIVE_INFINITY, END);
            doubleIs(Double.NEGATIVE_INFINITY, -END);
        });
    }

    private static void noNumber() {
        says("of what is no number: the SAMPLE with which the latest STEP was made");
        edge("a float and a double", () -> {
            OneBitLoop x = withReel(4, NO_FLOAT);
            fill(x, 1, 5, NO_DOUBLE);
            steps(x, -77);
            due("float", x.sample(0, 0), -77);
            due("double", x.sample(1, 0), -77);
        });
        edge("the latest of some", () -> {
            OneBitLoop x = withReel(5, -1);
            steps(x, 3, END, -4);
            due("sample", x.sample(0, 0), -4);
        });
        edge("as it was cut", () -> {
            OneBitLoop x = withReel(5, -1, DOUBLE_WITHOUT_END);
            due("run", x.run(0, 1, 1), 1);
            due("sample", x.sample(0, 0), END);
        });
        edge("a STEP of run(), with what is no number too", () -> {
            OneBitLoop x = withReel(4, 0x41100000L, NO_FLOAT, NO_FLOAT);
            due("run", x.run(0, 0, 3), 3);
            for (int t = 0; t < 3; t++) {
                due("sample of step " + t, x.record(t, 0), 9);
            }
        });
        edge("a STEP that was refused is none", () -> {
            OneBitLoop x = withReel(5, -1);
            x.stage(4, 0, 100);
            manySteps(x, 11, END);
            steps(x, -3, 5);
            due("bad", x.step(END + 1), BAD);
            due("great", x.step(END), GREAT);
            due("sample", x.sample(0, 0), 5);
        });
        edge("a STEP of a TWIN is none", () -> {
            OneBitLoop x = withReel(5, -1);
            x.stage(0, 0, 0);
            steps(x, 5);
            x.hold(9, 3);
            x.reach(7, 8, 100);
            x.worst(3, 10, 11);
            x.check();
            due("sample", x.sample(0, 0), 5);
        });
        edge("a STEP that was gone back over is none", () -> {
            OneBitLoop x = withReel(5, -1);
            steps(x, 7, 8, 9);
            x.undo(2);
            due("sample", x.sample(0, 0), 7);
        });
        says("(0 without one;");
        edge("of a new object", () -> due("sample", withReel(5, -1).sample(0, 0), 0));
        edge("a STEP with it", () -> {
            OneBitLoop x = withReel(4, -1);
            due("run", x.run(0, 0, 1), 1);
            due("record", x.record(0, 0), 0);
        });
        edge("all gone back over", () -> {
            OneBitLoop x = withReel(5, -1);
            steps(x, 7);
            x.undo(1);
            due("sample", x.sample(0, 0), 0);
        });
        edge("cleared", () -> {
            OneBitLoop x = withReel(5, -1);
            steps(x, 7);
            x.clear();
            due("sample", x.sample(0, 0), 0);
        });
        says("what was forged does not count).");
        edge("for sample()", () -> {
            OneBitLoop x = withReel(5, -1);
            steps(x, 7);
            due("forge", x.forge(0, 0, 100), 1);
            due("sample", x.sample(0, 0), 7);
        });
        edge("for run()", () -> {
            OneBitLoop x = withReel(5, -1);
            steps(x, 7);
            due("forge", x.forge(0, 0, 100), 1);
            due("run", x.run(0, 0, 1), 2);
            due("record", x.record(1, 0), 7);
        });
        edge("behind undo()", () -> {
            OneBitLoop x = withReel(5, -1);
            steps(x, 7, 8);
            due("forge", x.forge(0, 0, 100), 1);
            x.undo(1);
            due("sample", x.sample(0, 0), 7);
        });
    }

    private static void findings() {
        says("FINDINGS (answers -10 less the number):");
        edge("the number is what count(4) tells", () -> {
            OneBitLoop x = new OneBitLoop();
            due("answer", x.lose(0), -11);
            due("number", x.count(4), 1);
        });
        says("1 NULL: the REEL is LOST;");
        edge("never made", () -> due("put", new OneBitLoop().put(5, 0, 0, 0), -11));
        edge("lost again", () -> {
            OneBitLoop x = withReel(0, 1);
            x.lose(0);
            due("put", x.put(0, 0, 0, 0), -11);
            due("number", x.count(4), 1);
        });
        edge("a row of no items is not LOST", () -> due("lose", withReel(0).lose(0), 0));
        says("2 INDEX: there is no such item;");
        edge("below, behind", () -> {
            OneBitLoop x = withReel(2, 1, 2);
            due("put -1", x.put(0, 2, -1, 0), -12);
            due("number", x.count(4), 2);
            due("put 2", x.put(0, 2, 2, 0), -12);
            due("put 0", x.put(0, 2, 0, 0), 1);
            due("put 1", x.put(0, 2, 1, 0), 1);
        });
        says("3 CAST: it has another FORM;");
        for (int f = 0; f < 6; f++) {
            int form = f;
            edge("FORM " + f + " as each", () -> {
                OneBitLoop x = withReel(form, 0);
                for (int other = 0; other < 6; other++) {
                    due("as " + other, x.put(0, other, 0, 0), other == form ? 1 : -13);
                }
                due("number", x.count(4), 3);
            });
        }
        says("4 STORE: unlike FORMS;");
        for (int f = 0; f < 6; f++) {
            int form = f;
            edge("FORM " + f + " to each", () -> {
                OneBitLoop x = withReel(form, 0);
                for (int other = 0; other < 6; other++) {
                    x.reel(1, other, 1);
                    due("to " + other, x.copy(0, 0, 1, 0, 1), other == form ? 1 : -14);
                }
                due("number", x.count(4), 4);
            });
        }
        says("5 SIZE: below 0.");
        edge("-1 and 0", () -> {
            OneBitLoop x = new OneBitLoop();
            due("0", x.reel(0, 0, 0), 0);
            due("-1", x.reel(0, 0, -1), -15);
            due("number", x.count(4), 5);
        });
    }

    // ---- promises

    private static void newObject() {
        promise(1);
        says("REELS are LOST;");
        edge("to each call", () -> {
            for (int r = 0; r < 6; r++) {
                OneBitLoop x = new OneBitLoop();
                due("put", x.put(r, 0, 0, 0), NULL);
                due("copy", x.copy(r, 0, r, 0, 0), NULL);
                due("run", x.run(r, 0, 1), NULL);
                due("lose", x.lose(r), NULL);
            }
        });
        says("no STAGES.");
        edge("count(0)", () -> due("count", new OneBitLoop().count(0), 0));
        edge("no STAGE 0", () -> due("stageAt", new OneBitLoop().stageAt(0, 0), LEAST));
        edge("the first is 0", () -> due("stage", new OneBitLoop().stage(0, 0, 0), 0));
    }

    private static void reel() {
        promise(2);
        says("A REEL is a new row of a FORM with n items: n.");
        edge("0 and 60", () -> {
            OneBitLoop x = new OneBitLoop();
            due("60", x.reel(1, 5, 60), 60);
            due("0", x.reel(1, 5, 0), 0);
            due("as many", x.lose(1), 0);
        });
        edge("in the place of another: longer", () -> {
            OneBitLoop x = withReel(3, 1, 2);
            due("reel", x.reel(0, 3, 4), 4);
            itemsAre(x, 0, 3, 0, 0, 0, 0);
            due("as many", x.lose(0), 4);
        });
        edge("in the place of another: shorter, then longer", () -> {
            OneBitLoop x = withReel(3, 1, 2, 3);
            due("reel", x.reel(0, 3, 1), 1);
            due("put 1", x.put(0, 3, 1, 9), INDEX);
            due("reel", x.reel(0, 3, 3), 3);
            itemsAre(x, 0, 3, 0, 0, 0);
        });
        edge("in the place of another: of another FORM", () -> {
            OneBitLoop x = withReel(3, MOST);
            due("reel", x.reel(0, 4, 1), 1);
            due("as it was", x.put(0, 3, 0, 0), CAST);
            itemsAre(x, 0, 4, 0);
        });
        edge("where one was LOST", () -> {
            OneBitLoop x = withReel(3, 1, 2);
            x.lose(0);
            due("reel", x.reel(0, 3, 2), 2);
            itemsAre(x, 0, 3, 0, 0);
        });
        edge("the others stay", () -> {
            OneBitLoop x = withReel(3, 1, 2);
            due("reel", x.reel(1, 3, 2), 2);
            itemsAre(x, 0, 3, 1, 2);
        });
        says("BAD: REEL, FORM, above 60;");
        for (int r : new int[] {-1, 6, LEAST_INT, MOST_INT}) {
            edge("REEL " + r, () -> due("reel", new OneBitLoop().reel(r, 0, 1), BAD));
        }
        for (int form : new int[] {-1, 6, LEAST_INT, MOST_INT}) {
            edge("FORM " + form, () -> due("reel", new OneBitLoop().reel(0, form, 1), BAD));
        }
        for (int n : new int[] {61, MOST_INT}) {
            edge("n " + n, () -> due("reel", new OneBitLoop().reel(0, 0, n), BAD));
        }
        edge("the row stays", () -> {
            OneBitLoop x = withReel(3, 1, 2);
            due("form", x.reel(0, 6, 1), BAD);
            due("n", x.reel(0, 3, 61), BAD);
            itemsAre(x, 0, 3, 1, 2);
            due("no finding", x.count(4), 0);
        });
        edge("ahead of SIZE", () -> {
            due("reel", new OneBitLoop().reel(6, 0, -1), BAD);
            due("form", new OneBitLoop().reel(0, -1, -1), BAD);
        });
        says("SIZE.");
        for (int n : new int[] {-1, LEAST_INT}) {
            edge("n " + n, () -> {
                OneBitLoop x = withReel(3, 1, 2);
                due("reel", x.reel(0, 3, n), SIZE);
                due("finding", x.count(4), 5);
                itemsAre(x, 0, 3, 1, 2);
                due("of one that is LOST", x.reel(1, 3, n), SIZE);
                due("it is so still", x.lose(1), NULL);
            });
        }
    }

    private static void lose() {
        promise(3);
        says("A REEL is LOST: how many items it had.");
        edge("60", () -> {
            OneBitLoop x = new OneBitLoop();
            x.reel(5, 0, 60);
            due("lose", x.lose(5), 60);
        });
        edge("none", () -> due("lose", withReel(4).lose(0), 0));
        edge("to each call", () -> {
            OneBitLoop x = withReel(2, 7);
            fill(x, 1, 2, 8);
            due("lose", x.lose(0), 1);
            due("put", x.put(0, 2, 0, 0), NULL);
            due("copy from", x.copy(0, 0, 1, 0, 1), NULL);
            due("copy to", x.copy(1, 0, 0, 0, 1), NULL);
            due("run", x.run(0, 0, 1), NULL);
            due("get", x.get(0, 2, 0), 0);
            due("sample", x.sample(0, 0), 0);
            due("finding", x.count(4), 1);
        });
        edge("the others stay", () -> {
            OneBitLoop x = withReel(2, 7);
            fill(x, 1, 2, 8);
            x.lose(0);
            itemsAre(x, 1, 2, 8);
        });
        says("BAD;");
        for (int r : new int[] {-1, 6, LEAST_INT, MOST_INT}) {
            edge("REEL " + r, () -> {
                OneBitLoop x = new OneBitLoop();
                due("lose", x.lose(r), BAD);
                due("no finding", x.count(4), 0);
            });
        }
        says("NULL.");
        edge("never made", () -> due("lose", new OneBitLoop().lose(3), NULL));
        edge("twice", () -> {
            OneBitLoop x = withReel(0, 1);
            due("lose", x.lose(0), 1);
            due("again", x.lose(0), NULL);
            due("finding", x.count(4), 1);
        });
    }

    private static void put() {
        promise(4);
        says("Item i of a REEL, treated as of a FORM, by BITS: 1.");
        edge("the first", () -> {
            OneBitLoop x = withReel(2, 7, 8, 9);
            due("put", x.put(0, 2, 0, -1), 1);
            itemsAre(x, 0, 2, -1, 8, 9);
        });
        edge("the last", () -> {
            OneBitLoop x = withReel(2, 7, 8, 9);
            due("put", x.put(0, 2, 2, -1), 1);
            itemsAre(x, 0, 2, 7, 8, -1);
        });
        says("BAD;");
        for (int r : new int[] {-1, 6, LEAST_INT, MOST_INT}) {
            edge("REEL " + r, () -> due("put", new OneBitLoop().put(r, 0, 0, 0), BAD));
        }
        for (int form : new int[] {-1, 6, LEAST_INT, MOST_INT}) {
            edge("FORM " + form, () -> due("put", withReel(0, 5).put(0, form, 0, 0), BAD));
        }
        edge("ahead of NULL", () -> due("put", new OneBitLoop().put(0, 6, 0, 0), BAD));
        edge("is no finding", () -> {
            OneBitLoop x = withReel(0, 5);
            due("put", x.put(0, 6, 0, 0), BAD);
            due("count", x.count(4), 0);
        });
        says("NULL;");
        edge("a REEL that is LOST", () -> due("put", new OneBitLoop().put(0, 0, 0, 0), NULL));
        edge("ahead of CAST, INDEX", () -> {
            OneBitLoop x = withReel(2, 7);
            x.lose(0);
            due("put", x.put(0, 3, -1, 0), NULL);
        });
        says("CAST;");
        edge("another FORM", () -> {
            OneBitLoop x = withReel(2, 7);
            due("put", x.put(0, 4, 0, 1), CAST);
            due("finding", x.count(4), 3);
            itemsAre(x, 0, 2, 7);
        });
        edge("ahead of INDEX", () -> {
            OneBitLoop x = withReel(2, 7);
            due("behind", x.put(0, 3, 1, 0), CAST);
            due("below", x.put(0, 3, -1, 0), CAST);
        });
        says("INDEX.");
        for (int i : new int[] {-1, 1, 60, LEAST_INT, MOST_INT}) {
            edge("item " + i, () -> {
                OneBitLoop x = withReel(2, 7);
                due("put", x.put(0, 2, i, 0), INDEX);
                due("finding", x.count(4), 2);
                itemsAre(x, 0, 2, 7);
            });
        }
        edge("a row of no items", () -> due("put", withReel(2).put(0, 2, 0, 0), INDEX));
    }

    private static void get() {
        promise(5);
        says("BITS of item i (FORMS 0 to 3 with their sign, of 4 as an int).");
        edge("with their sign", () -> {
            for (int form = 0; form < 4; form++) {
                due("FORM " + form, heldAs(form, -2), -2);
            }
        });
        edge("without a sign", () -> {
            for (int form = 0; form < 6; form++) {
                due("FORM " + form, heldAs(form, 0x55), 0x55);
            }
        });
        edge("of 4 as an int", () -> due("get", heldAs(4, 0x80000001L), LEAST_INT + 1));
        edge("of 5 as a long", () -> due("get", heldAs(5, LEAST + 1), LEAST + 1));
        edge("the first and the last", () -> {
            OneBitLoop x = withReel(1, 4, 5, 6);
            due("first", x.get(0, 1, 0), 4);
            due("last", x.get(0, 1, 2), 6);
        });
        says("0: BAD, FINDINGS.");
        for (int r : new int[] {-1, 6, LEAST_INT, MOST_INT}) {
            edge("REEL " + r, () -> notGot(withReel(2, 7), r, 2, 0, 0));
        }
        for (int form : new int[] {-1, 6, LEAST_INT, MOST_INT}) {
            edge("FORM " + form, () -> notGot(withReel(2, 7), 0, form, 0, 0));
        }
        edge("BAD ahead of NULL", () -> notGot(new OneBitLoop(), 0, 6, 0, 0));
        edge("NULL", () -> notGot(new OneBitLoop(), 0, 0, 0, 1));
        edge("NULL ahead of CAST, INDEX", () -> {
            OneBitLoop x = withReel(2, 7);
            x.lose(0);
            notGot(x, 0, 3, -1, 1);
        });
        edge("CAST", () -> notGot(withReel(2, 7), 0, 4, 0, 3));
        edge("CAST ahead of INDEX", () -> notGot(withReel(2, 7), 0, 4, 1, 3));
        for (int i : new int[] {-1, 1, 60, LEAST_INT, MOST_INT}) {
            edge("INDEX " + i, () -> notGot(withReel(2, 7), 0, 2, i, 2));
        }
    }

    private static void notGot(OneBitLoop x, int r, int form, int i, int finding) {
        due("get", x.get(r, form, i), 0);
        due("finding", x.count(4), finding);
    }

    private static void copy() {
        promise(6);
        says("n items of REEL r, from i on, come to REEL q (perhaps r, as they were), from j on: 1.");
        edge("to another", () -> {
            OneBitLoop x = withReel(2, 1, 2, 3, 4);
            fill(x, 1, 2, 5, 6, 7, 8);
            due("copy", x.copy(0, 1, 1, 2, 2), 1);
            itemsAre(x, 0, 2, 1, 2, 3, 4);
            itemsAre(x, 1, 2, 5, 6, 2, 3);
        });
        edge("all of them", () -> {
            OneBitLoop x = withReel(5, -1, 2, 3);
            x.reel(1, 5, 3);
            due("copy", x.copy(0, 0, 1, 0, 3), 1);
            itemsAre(x, 1, 5, NO_DOUBLE, 2, 3);
        });
        edge("60 of 60", () -> {
            OneBitLoop x = new OneBitLoop();
            x.reel(0, 0, 60);
            x.reel(1, 0, 60);
            x.put(0, 0, 59, 9);
            due("copy", x.copy(0, 0, 1, 0, 60), 1);
            due("last", x.get(1, 0, 59), 9);
        });
        edge("upward within itself", () -> {
            OneBitLoop x = withReel(2, 1, 2, 3, 4);
            due("copy", x.copy(0, 0, 0, 1, 3), 1);
            itemsAre(x, 0, 2, 1, 1, 2, 3);
        });
        edge("downward within itself", () -> {
            OneBitLoop x = withReel(2, 1, 2, 3, 4);
            due("copy", x.copy(0, 1, 0, 0, 3), 1);
            itemsAre(x, 0, 2, 2, 3, 4, 4);
        });
        edge("to where it is", () -> {
            OneBitLoop x = withReel(2, 1, 2);
            due("copy", x.copy(0, 0, 0, 0, 2), 1);
            itemsAre(x, 0, 2, 1, 2);
        });
        edge("none, at the end too", () -> {
            OneBitLoop x = withReel(2, 1, 2);
            fill(x, 1, 2, 5);
            due("begin", x.copy(0, 0, 1, 0, 0), 1);
            due("end", x.copy(0, 2, 1, 1, 0), 1);
            itemsAre(x, 1, 2, 5);
        });
        edge("none of rows of no items", () -> {
            OneBitLoop x = withReel(2);
            due("copy", x.copy(0, 0, 0, 0, 0), 1);
        });
        says("BAD: REELS;");
        for (int r : new int[] {-1, 6, LEAST_INT, MOST_INT}) {
            edge("r " + r, () -> due("copy", withReel(2, 1).copy(r, 0, 0, 0, 1), BAD));
            edge("q " + r, () -> due("copy", withReel(2, 1).copy(0, 0, r, 0, 1), BAD));
            edge("ahead of NULL: r " + r, () -> due("copy", new OneBitLoop().copy(r, 0, 0, 0, 1), BAD));
            edge("ahead of NULL: q " + r, () -> due("copy", new OneBitLoop().copy(0, 0, r, 0, 1), BAD));
        }
        says("NULL: r, q;");
        edge("r", () -> notCopied(withReel(2, 1), 1, 0, 0, 0, 1, NULL));
        edge("q", () -> notCopied(withReel(2, 1), 0, 0, 1, 0, 1, NULL));
        edge("both", () -> notCopied(withReel(2, 1), 1, 0, 2, 0, 1, NULL));
        edge("none of it", () -> notCopied(withReel(2, 1), 1, 0, 1, 0, 0, NULL));
        edge("ahead of STORE, INDEX", () -> {
            // a REEL that is LOST was never of FORM 2
            notCopied(withReel(2, 1), 0, -1, 1, 0, 1, NULL);
            notCopied(withReel(2, 1), 1, -1, 0, 5, -1, NULL);
        });
        says("STORE;");
        edge("longs to doubles", () -> {
            OneBitLoop x = withReel(3, 1);
            fill(x, 1, 5, 2);
            notCopied(x, 0, 0, 1, 0, 1, STORE);
            itemsAre(x, 1, 5, 2);
        });
        edge("none of them", () -> {
            OneBitLoop x = withReel(3, 1);
            fill(x, 1, 2, 2);
            notCopied(x, 0, 0, 1, 0, 0, STORE);
        });
        edge("ahead of INDEX", () -> {
            OneBitLoop x = withReel(3, 1);
            fill(x, 1, 2, 2);
            notCopied(x, 0, -1, 1, 0, 1, STORE);
            notCopied(x, 0, 0, 1, 0, 9, STORE);
        });
        says("INDEX: below 0,");
        edge("i", () -> notCopied(pair(), 0, -1, 1, 0, 1, INDEX));
        edge("i, none", () -> notCopied(pair(), 0, -1, 1, 0, 0, INDEX));
        edge("j", () -> notCopied(pair(), 0, 0, 1, -1, 1, INDEX));
        edge("j, none", () -> notCopied(pair(), 0, 0, 1, -1, 0, INDEX));
        edge("n", () -> notCopied(pair(), 0, 1, 1, 1, -1, INDEX));
        edge("the least", () -> {
            notCopied(pair(), 0, LEAST_INT, 1, 0, 1, INDEX);
            notCopied(pair(), 0, 0, 1, LEAST_INT, 1, INDEX);
            notCopied(pair(), 0, 0, 1, 0, LEAST_INT, INDEX);
            notCopied(pair(), 0, LEAST_INT, 1, LEAST_INT, LEAST_INT, INDEX);
        });
        says("not so many.");
        edge("of r", () -> {
            notCopied(pair(), 0, 0, 1, 0, 3, INDEX);
            notCopied(pair(), 0, 1, 1, 0, 2, INDEX);
            notCopied(pair(), 0, 2, 1, 0, 1, INDEX);
            notCopied(pair(), 0, 3, 1, 0, 0, INDEX);
        });
        edge("of q", () -> {
            notCopied(pair(), 1, 0, 0, 0, 3, INDEX);
            notCopied(pair(), 1, 0, 0, 1, 2, INDEX);
            notCopied(pair(), 1, 0, 0, 2, 1, INDEX);
            notCopied(pair(), 1, 0, 0, 3, 0, INDEX);
        });
        edge("beyond the most int", () -> {
            notCopied(pair(), 0, MOST_INT, 1, 0, 1, INDEX);
            notCopied(pair(), 0, 1, 1, 0, MOST_INT, INDEX);
            notCopied(pair(), 0, 0, 1, MOST_INT, 1, INDEX);
            notCopied(pair(), 0, MOST_INT, 1, MOST_INT, MOST_INT, INDEX);
        });
        edge("within itself", () -> notCopied(pair(), 0, 0, 0, 1, 2, INDEX));
    }

    /** REEL 0 has two items, REEL 1 three. */
    private static OneBitLoop pair() {
        OneBitLoop x = withReel(2, 11, 12);
        fill(x, 1, 2, 21, 22, 23);
        return x;
    }

    private static void notCopied(OneBitLoop x, int r, int i, int q, int j, int n, int want) {
        long first = x.get(0, 2, 0);
        long second = x.get(1, 2, 0);
        due("copy(" + r + ", " + i + ", " + q + ", " + j + ", " + n + ")", x.copy(r, i, q, j, n), want);
        due("finding", x.count(4), -10 - want);
        due("REEL 0 stays", x.get(0, 2, 0), first);
        due("REEL 1 stays", x.get(1, 2, 0), second);
    }

    private static void sample() {
        promise(7);
        says("The SAMPLE of item i of a REEL, as a STEP now would have it.");
        edge("the first and the last", () -> {
            OneBitLoop x = withReel(0, 4, 5, 0x86);
            due("first", x.sample(0, 0), 4);
            due("last", x.sample(0, 2), -122);
        });
        edge("as the next STEP has it", () -> {
            OneBitLoop x = withReel(5, -1, DOUBLE_WITHOUT_END);
            steps(x, 31);
            long none = x.sample(0, 0);
            due("run", x.run(0, 0, 1), 2);
            due("no number", x.record(1, 0), none);
            long most = x.sample(0, 1);
            due("run", x.run(0, 1, 1), 3);
            due("without end", x.record(2, 0), most);
        });
        edge("it makes no STEP", () -> {
            OneBitLoop x = withReel(0, 4);
            x.sample(0, 0);
            due("count", x.count(2), 0);
        });
        says("0: BAD, NULL, INDEX.");
        for (int r : new int[] {-1, 6, LEAST_INT, MOST_INT}) {
            edge("REEL " + r, () -> noSample(withReel(2, 7), r, 0, 0));
        }
        edge("NULL", () -> noSample(withReel(2, 7), 1, 0, 1));
        edge("NULL ahead of INDEX", () -> noSample(withReel(2, 7), 1, -1, 1));
        for (int i : new int[] {-1, 1, 60, LEAST_INT, MOST_INT}) {
            edge("INDEX " + i, () -> noSample(withReel(2, 7), 0, i, 2));
        }
        edge("INDEX of a row of no items", () -> noSample(withReel(2), 0, 0, 2));
    }

    private static void noSample(OneBitLoop x, int r, int i, int finding) {
        steps(x, 3);
        due("sample", x.sample(r, i), 0);
        due("finding", x.count(4), finding);
    }
}
