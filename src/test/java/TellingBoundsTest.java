/** The bounds that promises 28 to 32 name, and those that the terms name for TELLING, TRACE and FAULTS. */
public final class TellingBoundsTest {
    private static final Due due = new Due("TellingBoundsTest");
    private static final int UNKNOWN = -1, OUTSIDE = -2;

    public static void main(String[] args) {
        tellAtTheEnds();
        tellBodies();
        make();
        as();
        traceWraps();
        traceStays();
        faultOfCallsThatNameSome();
        faultOfOtherCalls();
        lastCall();
        due.end();
    }

    private static void tellAtTheEnds() {
        due.says(0, "STONE (1): its CELL. PEBBLE (2): what STONE's gives, and 100. GRAIN (3): what PEBBLE's gives, "
            + "and what STONE's gives (PEBBLE's left out).");
        PondRings x = Ponds.with(Ponds.OPEN);
        int[] want = {0, 100, 100, 41, 141, 182};
        for (int w = 0; w < 6; w++) {
            x.wish(w % 3, w < 3 ? 0 : 41);
            due.is("tell(" + w + ")", x.tell(w), want[w]);
        }
        due.says(28, "UNKNOWN.");
        due.is(x, "tell(6)", UNKNOWN);
        due.is(x, "tell(-1)", UNKNOWN);
        due.is(x, "drop(1)", 5);
        due.is(x, "tell(5)", UNKNOWN);
    }

    private static void tellBodies() {
        due.says(0, "bodies that leave their number in TRACE (an int that wraps, 0 at first, becomes 31 times it "
            + "and the number) as they begin");
        int[] want = {1, 2 * 31 + 1, ((3 * 31 + 2) * 31 + 1) * 31 + 1};
        for (int kind = 0; kind < 3; kind++) {
            PondRings x = Ponds.with("p11;.");
            x.wish(kind, 0);
            due.is(x, "trace()", 0);
            x.tell(0);
            due.is("trace() of kind " + kind, x.trace(), want[kind]);
            due.is("trace() again", x.trace(), want[kind]);
        }
    }

    private static void make() {
        due.says(0, "MADE by a lent body (4): its number; GRAINS have their own (5): 80.");
        PondRings x = Ponds.with(Ponds.OPEN);
        int trace = 0;
        for (int w = 0; w < 6; w++) {
            x.wish(w % 3, 41 - w);
            boolean grain = w % 3 == 2;
            due.is("make(" + w + ")", x.make(w), grain ? 80 : w);
            trace = 31 * trace + (grain ? 5 : 4);
            due.is("trace()", x.trace(), trace);
        }
        due.says(29, "UNKNOWN.");
        due.is(x, "make(6)", UNKNOWN);
        due.is(x, "make(-1)", UNKNOWN);
        due.is(x, "trace()", trace);
    }

    private static void as() {
        due.says(30, "A WISH, taken as one of a kind: 1.");
        PondRings x = Ponds.with("p11;.");
        for (int w = 0; w < 6; w++) {
            x.wish(w % 3, 0);
            for (int kind = 0; kind < 3; kind++) {
                boolean is = w % 3 >= kind;
                due.is(x, "as(" + w + ", " + kind + ")", is ? 1 : -12);
                due.is(x, "fault()", is ? 0 : 2);
            }
            due.is(x, "as(" + w + ", -1)", OUTSIDE);
            due.is(x, "as(" + w + ", 3)", OUTSIDE);
            due.is(x, "as(" + (w + 1) + ", 0)", UNKNOWN);
        }
        due.is("it stays of its kind", x.ofWish(5, 0), 2);
        due.is(x, "trace()", 0);
    }

    /** Counted in a long that is cut: the machine's own wrap-around is not asked for help. */
    private static void traceWraps() {
        due.says(0, "TRACE (an int that wraps");
        PondRings x = Ponds.with("p11;.");
        x.wish(0, 0);
        long trace = 0;
        int wraps = 0;
        for (int i = 0; i < 60; i++) {
            due.is("make(0)", x.make(0), 0);
            long next = 31 * trace + 4;
            wraps += next == (int) next ? 0 : 1;
            trace = (int) next;
            due.is("trace() after " + (i + 1), x.trace(), trace);
        }
        due.is("it wrapped", wraps > 40 ? 1 : 0, 1);
        PondRings y = Ponds.with("p11;.");
        y.wish(0, 0);
        int[] want = {4, 128, 3972, 123136, 3817220, 118333824, -626618748, 2049655296};
        for (int trace8 : want) {
            y.make(0);
            due.is("trace()", y.trace(), trace8);
        }
    }

    private static void traceStays() {
        due.says(31, "TRACE.");
        PondRings x = Scene.SOME.made();
        int trace = x.trace();
        for (String told : new String[] {"as(2, 1)", "as(0, 2)", "wish(0, 0)", "drop(3)", "tell(9)", "make(9)",
            "soonest(-1)", "alone(-1)", "sheet(0, 0, 3)", "lose(0)", "reed(0, 0)", "pull(1)"}) {
            Told.call(x, told);
            due.is("trace() after " + told, x.trace(), trace);
        }
    }

    private static void faultOfCallsThatNameSome() {
        due.says(32, "0: it came to none, or was refused (0 ahead of any).");
        String[] fine = {"pond(0, 0, 0, 11)", "pond(0, 0, 0, 10)", "sheet(3, 0, 60)", "put(0, 0, 0)", "cell(0, 0, 0)",
            "copy(0, 0, 0, 1, 2)", "as(0, 0)"};
        String[] refused = {"pond(4, 0, 0, 0)", "pond(0, 3, 0, 0)", "sheet(4, 0, 0)", "sheet(0, 0, 61)", "put(4, 0, 0)",
            "cell(4, 0, 0)", "cell(0, 0, 3)", "copy(4, 0, 0, 0, 0)", "as(9, 0)", "as(0, 3)"};
        String[][] faulty = {{}, {"pond(3, 0, 0, 0)", "put(3, 0, 0)", "cell(3, 0, 0)", "copy(3, 0, 0, 0, 0)"},
            {"pond(0, 1, 0, 0)", "cell(0, 0, 1)", "copy(0, 0, 1, 0, 0)", "as(0, 1)"},
            {"pond(0, 0, 0, 12)", "put(0, 11, 0)", "cell(0, 11, 0)", "copy(0, 0, 0, 0, 12)"},
            {"pond(0, 0, 0, -1)", "sheet(0, 0, -1)"}};
        for (int before = 1; before <= 4; before++) {
            for (int fault = 1; fault <= 4; fault++) {
                for (String told : faulty[fault]) {
                    latest(faulty[before][0], told, fault);
                }
            }
            for (String told : fine) {
                latest(faulty[before][0], told, 0);
            }
            for (String told : refused) {
                latest(faulty[before][0], told, 0);
            }
        }
    }

    private static void latest(String before, String told, int fault) {
        PondRings x = Scene.SOME.made();
        Told.call(x, before);
        Told.call(x, told);
        due.is("fault() of " + told + " after " + before, x.fault(), fault);
        due.is("fault() again", x.fault(), fault);
    }

    private static void faultOfOtherCalls() {
        due.says(32, "The FAULT of the latest call that names one");
        PondRings x = Scene.SOME.made();
        for (String told : new String[] {"water(0)", "far(0, 5)", "stone(0, 0, 0)", "ofStone(0, 0)", "back(1)",
            "ring(0, 0)", "meet(0, 1, 0)", "first(0)", "wish(0, 0)", "ofWish(0, 0)", "drop(1)", "apart(0, 1)",
            "atOnce()", "soonest(-1)", "alone(-1)", "sunset(3)", "reed(0, 0)", "pull(1)", "fits(0, -1)", "dig(0)",
            "lose(1)", "lose(1)", "tell(0)", "make(0)", "trace()", "fault()", "many(0)"}) {
            Told.call(x, told);
            due.is("fault() after " + told, x.fault(), Scene.FAULT_OF_OTHERS);
        }
    }

    /** The 512th call is still promised; a later one may answer as it likes, but ends and throws nothing. */
    private static void lastCall() {
        due.says(0, "An object is used for at most 512 calls after it has been made; what later calls answer is "
            + "free.");
        PondRings x = Scene.SOME.made();
        long trace = x.trace();
        int made = Scene.SOME.calls().size() + 1;
        while (made < 510) {
            due.is("tell(0)", x.tell(0), 0);
            made++;
            trace = (int) (31 * trace + 1);
        }
        due.is("the 511th call, wish(0, 0)", x.wish(0, 0), 3);
        due.is("the 512th call, trace()", x.trace(), trace);
        for (int calls = 0; calls < 600; calls++) {
            for (String told : new String[] {"tell(0)", "wish(0, 0)", "stone(0, 0, 0)", "reed(0, 0)", "soonest(-1)",
                "pond(0, 0, 0, 11)", "sheet(0, 0, 60)", "back(1)", "drop(1)", "pull(1)"}) {
                Told.call(x, told);
            }
        }
    }
}
