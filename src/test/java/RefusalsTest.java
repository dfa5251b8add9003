import java.util.ArrayList;
import java.util.EnumMap;
import java.util.List;
import java.util.Map;

/**
 * Every REFUSAL and FAULT of every promise, alone and ahead of those that a call's line tells after it: what is
 * answered, what fault() tells then, and that nothing else is changed, seen against an object without the call.
 */
public final class RefusalsTest {
    private static final Due due = new Due("RefusalsTest");
    private static final Map<Scene, List<String>> LOOKS = new EnumMap<>(Scene.class);
    private static final int UNKNOWN = -1, OUTSIDE = -2, STATE = -3, FULL = -4;
    private static final int NULL = 1, CAST = 2, INDEX = 3, SIZE = 4;
    private static final long LOST = Long.MIN_VALUE;

    public static void main(String[] args) {
        pond();
        firstFaults();
        waterAndFar();
        stone();
        ofStone();
        ring();
        meetAndFirst();
        wish();
        ofWish();
        plans();
        takenBack();
        reed();
        fitsAndDig();
        sheet();
        loseAndPut();
        cell();
        copy();
        tellAndMake();
        as();
        many();
        due.end();
    }

    /** Of calls that name FAULTS: fault() is 0 after a refusal. */
    private static void cleared(Scene scene, long answer, String... calls) {
        for (String told : calls) {
            unchanged(scene, told, answer, 0);
        }
    }

    private static void faulty(Scene scene, int fault, String... calls) {
        for (String told : calls) {
            unchanged(scene, told, told.startsWith("cell") ? LOST : -10 - fault, fault);
        }
    }

    /** Of calls that name no FAULTS: fault() is as it was. */
    private static void refused(Scene scene, long answer, String... calls) {
        for (String told : calls) {
            unchanged(scene, told, answer, scene.fault());
        }
    }

    private static void unchanged(Scene scene, String told, long answer, int fault) {
        String where = scene + ": " + told;
        PondRings x = scene.made();
        due.is(where + " fault() before", x.fault(), scene.fault());
        due.is(where, Told.call(x, told), answer);
        due.is(where + " fault()", x.fault(), fault);
        List<String> want = LOOKS.computeIfAbsent(scene, s -> Look.at(s.made()));
        List<String> got = Look.at(x);
        List<String> other = new ArrayList<>(got);
        other.removeAll(want);
        due.is(where + " changes nothing, but then " + other, got.equals(want) ? 1 : 0, 1);
        due.is(where + ": no more than 512 calls", scene.calls().size() + got.size() < 450 ? 1 : 0, 1);
    }

    private static void pond() {
        due.says(2, "UNKNOWN; OUTSIDE: sort; FAULTS CAST (nothing is no CAST), NULL, SIZE: n is below 0, INDEX");
        cleared(Scene.SOME, UNKNOWN, "pond(-1, 0, 0, 11)", "pond(4, 0, 0, 11)", "pond(MIN, 0, 0, 11)",
            "pond(MAX, 0, 0, 11)", "pond(4, 3, 0, 11)", "pond(-1, 0, 0, -1)", "pond(4, 0, -1, 0)",
            "pond(4, -1, -1, -1)");
        cleared(Scene.SOME, OUTSIDE, "pond(0, -1, 0, 11)", "pond(0, 3, 0, 11)", "pond(0, MIN, 0, 11)",
            "pond(0, MAX, 0, 11)", "pond(3, 3, 0, 0)", "pond(0, 3, 0, -1)", "pond(0, -1, 12, 0)", "pond(1, 3, 0, 3)");
        faulty(Scene.SOME, CAST, "pond(0, 1, 0, 11)", "pond(0, 2, 0, 11)", "pond(1, 0, 0, 3)", "pond(1, 2, 0, 3)",
            "pond(2, 0, 0, 0)", "pond(2, 1, 0, 0)", "pond(0, 1, 0, -1)", "pond(0, 2, 12, 0)", "pond(0, 1, -1, -1)");
        faulty(Scene.SOME, NULL, "pond(3, 0, 0, 0)", "pond(3, 1, 0, 0)", "pond(3, 2, 0, 0)", "pond(3, 0, 0, -1)",
            "pond(3, 1, -1, 0)", "pond(3, 2, 5, 5)");
        faulty(Scene.NEW, NULL, "pond(0, 0, 0, 0)", "pond(3, 2, -1, -1)");
        faulty(Scene.SOME, SIZE, "pond(0, 0, 0, -1)", "pond(0, 0, 0, MIN)", "pond(0, 0, -1, -1)",
            "pond(0, 0, 12, -1)", "pond(1, 1, 0, -1)", "pond(2, 2, 1, -1)");
        faulty(Scene.SOME, INDEX, "pond(0, 0, 0, 12)", "pond(0, 0, 1, 11)", "pond(0, 0, 11, 1)", "pond(0, 0, -1, 11)",
            "pond(0, 0, -1, 1)", "pond(0, 0, 0, MAX)", "pond(0, 0, 1, MAX)", "pond(0, 0, MAX, MAX)",
            "pond(0, 0, MIN, MAX)", "pond(0, 0, MAX, 1)", "pond(1, 1, 0, 4)", "pond(2, 2, 0, 1)");
        due.says(0, "INDEX (of cells from i on also where i is not 0 .. how many there are, if none of them is "
            + "taken, too)");
        faulty(Scene.SOME, INDEX, "pond(0, 0, -1, 0)", "pond(0, 0, 12, 0)", "pond(0, 0, MAX, 0)", "pond(0, 0, MIN, 0)",
            "pond(2, 2, 1, 0)", "pond(2, 2, -1, 0)");
    }

    private static void firstFaults() {
        due.says(2, "INDEX: not all cells are there; -100 less it.");
        cleared(Scene.SOME, -100, "pond(0, 0, 11, 0)", "pond(0, 0, 0, 0)", "pond(2, 2, 0, 0)", "pond(1, 1, 0, 3)",
            "pond(1, 1, 3, 0)", "pond(0, 0, 1, 10)", "pond(0, 0, 10, 1)");
        cleared(Scene.SOME, -110, "pond(0, 0, 0, 10)");
        cleared(Scene.SOME, -101, "pond(0, 0, 0, 1)");
        cleared(Scene.FULL, -106, "pond(0, 0, 0, 6)");
        cleared(Scene.FULL, -100, "pond(3, 2, 0, 60)", "pond(3, 2, 60, 0)");
    }

    private static void waterAndFar() {
        due.says(3, "UNKNOWN.");
        refused(Scene.SOME, UNKNOWN, "water(-1)", "water(6)", "water(MIN)", "water(MAX)", "water(64)");
        refused(Scene.NEW, UNKNOWN, "water(0)", "water(-1)");
        due.says(4, "UNKNOWN.");
        refused(Scene.SOME, UNKNOWN, "far(-1, 0)", "far(0, -1)", "far(6, 0)", "far(0, 6)", "far(6, 6)", "far(2, 6)",
            "far(-1, 2)", "far(MIN, MAX)", "far(0, MAX)", "far(MIN, 0)");
        refused(Scene.NEW, UNKNOWN, "far(0, 0)");
    }

    private static void stone() {
        due.says(5, "UNKNOWN: CELL; OUTSIDE: kind, minute; STATE: it is LAND; FULL.");
        refused(Scene.SOME, UNKNOWN, "stone(0, -1, 0)", "stone(0, 6, 0)", "stone(0, MAX, 0)", "stone(0, MIN, 0)",
            "stone(3, 6, 0)", "stone(-1, -1, 0)", "stone(0, 6, 100)", "stone(0, -1, -1)");
        refused(Scene.NEW, UNKNOWN, "stone(0, 0, 0)", "stone(3, 0, 100)");
        refused(Scene.FULL, UNKNOWN, "stone(0, 3, 0)", "stone(3, -1, 100)");
        refused(Scene.SOME, OUTSIDE, "stone(-1, 0, 0)", "stone(3, 0, 0)", "stone(MAX, 0, 0)", "stone(MIN, 0, 0)",
            "stone(0, 0, -1)", "stone(0, 0, 100)", "stone(0, 0, MAX)", "stone(0, 0, MIN)", "stone(3, 0, 100)",
            "stone(3, 2, 0)", "stone(0, 2, 100)", "stone(0, 2, -1)", "stone(-1, 2, 0)");
        refused(Scene.FULL, OUTSIDE, "stone(3, 0, 0)", "stone(0, 0, 100)", "stone(-1, 1, 0)", "stone(0, 1, -1)");
        refused(Scene.SOME, STATE, "stone(0, 2, 0)", "stone(1, 2, 99)", "stone(2, 2, 50)");
        refused(Scene.FULL, STATE, "stone(0, 1, 0)");
        refused(Scene.FULL, FULL, "stone(0, 0, 0)", "stone(2, 2, 99)");
    }

    private static void ofStone() {
        due.says(6, "UNKNOWN; OUTSIDE.");
        refused(Scene.SOME, UNKNOWN, "ofStone(-1, 0)", "ofStone(3, 0)", "ofStone(7, 3)", "ofStone(8, 0)",
            "ofStone(MIN, 0)", "ofStone(MAX, 0)", "ofStone(3, 4)", "ofStone(-1, -1)");
        refused(Scene.NEW, UNKNOWN, "ofStone(0, 0)", "ofStone(0, 4)");
        refused(Scene.FULL, UNKNOWN, "ofStone(8, 0)");
        refused(Scene.SOME, OUTSIDE, "ofStone(0, -1)", "ofStone(0, 4)", "ofStone(2, MIN)", "ofStone(2, MAX)");
    }

    private static void ring() {
        due.says(8, "LOST: UNKNOWN; OUTSIDE.");
        refused(Scene.SOME, LOST, "ring(-1, 0)", "ring(3, 0)", "ring(MIN, 0)", "ring(MAX, 0)", "ring(0, -1)",
            "ring(0, 1000)", "ring(0, MAX)", "ring(0, MIN)", "ring(3, 1000)", "ring(-1, -1)");
        refused(Scene.NEW, LOST, "ring(0, 0)");
        refused(Scene.FULL, LOST, "ring(8, 0)", "ring(7, 1000)");
    }

    private static void meetAndFirst() {
        due.says(9, "UNKNOWN: STONES (it is one: so, too); OUTSIDE.");
        refused(Scene.SOME, UNKNOWN, "meet(-1, 0, 0)", "meet(0, -1, 0)", "meet(3, 0, 0)", "meet(0, 3, 1)",
            "meet(MIN, 0, 0)", "meet(0, MAX, 0)", "meet(0, 0, 0)", "meet(2, 2, 1)", "meet(0, 0, 2)", "meet(3, 3, 0)",
            "meet(0, 3, -1)", "meet(-1, 0, 2)");
        refused(Scene.NEW, UNKNOWN, "meet(0, 1, 0)", "meet(0, 0, 0)");
        refused(Scene.FULL, UNKNOWN, "meet(7, 8, 0)", "meet(7, 7, 0)");
        refused(Scene.SOME, OUTSIDE, "meet(0, 1, -1)", "meet(0, 1, 2)", "meet(0, 2, MAX)", "meet(0, 2, MIN)");
        due.says(10, "NONE. OUTSIDE.");
        refused(Scene.NEW, OUTSIDE, "first(-1)", "first(3)", "first(MIN)", "first(MAX)");
        refused(Scene.SOME, OUTSIDE, "first(-1)", "first(3)");
        refused(Scene.NEW, PondRings.NONE, "first(0)", "first(1)", "first(2)");
    }

    private static void wish() {
        due.says(11, "UNKNOWN: CELL; OUTSIDE: kind; STATE: it is LAND; FULL.");
        refused(Scene.SOME, UNKNOWN, "wish(0, -1)", "wish(0, 6)", "wish(0, MAX)", "wish(0, MIN)", "wish(3, 6)",
            "wish(-1, -1)");
        refused(Scene.NEW, UNKNOWN, "wish(0, 0)", "wish(3, 0)");
        refused(Scene.FULL, UNKNOWN, "wish(0, 3)", "wish(3, -1)");
        refused(Scene.SOME, OUTSIDE, "wish(-1, 0)", "wish(3, 0)", "wish(MAX, 0)", "wish(MIN, 0)", "wish(3, 2)",
            "wish(-1, 2)");
        refused(Scene.FULL, OUTSIDE, "wish(3, 0)", "wish(-1, 1)");
        refused(Scene.SOME, STATE, "wish(0, 2)", "wish(2, 2)");
        refused(Scene.FULL, STATE, "wish(0, 1)");
        refused(Scene.FULL, FULL, "wish(0, 0)", "wish(2, 2)");
    }

    private static void ofWish() {
        due.says(12, "UNKNOWN; OUTSIDE.");
        refused(Scene.SOME, UNKNOWN, "ofWish(-1, 0)", "ofWish(3, 0)", "ofWish(5, 1)", "ofWish(6, 0)", "ofWish(MIN, 0)",
            "ofWish(MAX, 0)", "ofWish(3, 2)", "ofWish(-1, -1)");
        refused(Scene.NEW, UNKNOWN, "ofWish(0, 0)", "ofWish(0, 2)");
        refused(Scene.FULL, UNKNOWN, "ofWish(6, 0)");
        refused(Scene.SOME, OUTSIDE, "ofWish(0, -1)", "ofWish(0, 2)", "ofWish(2, MIN)", "ofWish(2, MAX)");
    }

    private static void plans() {
        due.says(14, "UNKNOWN: WISHES (it is one: so, too).");
        refused(Scene.SOME, UNKNOWN, "apart(-1, 0)", "apart(0, -1)", "apart(3, 0)", "apart(0, 3)", "apart(0, 0)",
            "apart(2, 2)", "apart(3, 3)", "apart(MIN, 0)", "apart(0, MAX)");
        refused(Scene.NEW, UNKNOWN, "apart(0, 1)", "apart(0, 0)");
        refused(Scene.FULL, UNKNOWN, "apart(5, 6)", "apart(6, 5)", "apart(5, 5)");
        due.says(16, "UNKNOWN.");
        refused(Scene.SOME, UNKNOWN, "soonest(-2)", "soonest(3)", "soonest(MIN)", "soonest(MAX)");
        refused(Scene.NEW, UNKNOWN, "soonest(0)", "soonest(-2)");
        refused(Scene.FULL, UNKNOWN, "soonest(6)");
        refused(Scene.NEW, PondRings.NONE, "soonest(-1)");
        due.says(17, "UNKNOWN.");
        refused(Scene.SOME, UNKNOWN, "alone(-2)", "alone(3)", "alone(MIN)", "alone(MAX)");
        refused(Scene.NEW, UNKNOWN, "alone(0)", "alone(-2)");
        refused(Scene.FULL, UNKNOWN, "alone(6)");
        refused(Scene.NEW, PondRings.NONE, "alone(-1)");
        due.says(18, "BY SUNSET, as a set. OUTSIDE.");
        refused(Scene.SOME, OUTSIDE, "sunset(-1)", "sunset(21)", "sunset(MIN)", "sunset(MAX)");
        refused(Scene.NEW, OUTSIDE, "sunset(-1)", "sunset(21)");
    }

    private static void takenBack() {
        String words = "(0 .. as many as there are) are taken back: how many are left. OUTSIDE.";
        String[] names = {"back", "drop", "pull"};
        int[] some = {3, 3, 2};
        int[] full = {8, 6, 6};
        for (int i = 0; i < names.length; i++) {
            due.says(i == 0 ? 7 : i == 1 ? 13 : 20, words);
            refused(Scene.SOME, OUTSIDE, names[i] + "(-1)", names[i] + "(" + (some[i] + 1) + ")", names[i] + "(MIN)",
                names[i] + "(MAX)");
            refused(Scene.NEW, OUTSIDE, names[i] + "(-1)", names[i] + "(1)");
            refused(Scene.FULL, OUTSIDE, names[i] + "(" + (full[i] + 1) + ")");
            refused(Scene.SOME, some[i], names[i] + "(0)");
            refused(Scene.NEW, 0, names[i] + "(0)");
            refused(Scene.FULL, full[i], names[i] + "(0)");
        }
    }

    private static void reed() {
        due.says(19, "UNKNOWN: CELL; OUTSIDE: minute; STATE: it is LAND; FULL.");
        refused(Scene.SOME, UNKNOWN, "reed(-1, 0)", "reed(6, 0)", "reed(MIN, 0)", "reed(MAX, 0)", "reed(6, 100)",
            "reed(-1, -1)");
        refused(Scene.NEW, UNKNOWN, "reed(0, 0)", "reed(0, 100)");
        refused(Scene.FULL, UNKNOWN, "reed(3, 0)", "reed(-1, 100)");
        refused(Scene.SOME, OUTSIDE, "reed(0, -1)", "reed(0, 100)", "reed(0, MIN)", "reed(0, MAX)", "reed(2, 100)",
            "reed(2, -1)");
        refused(Scene.FULL, OUTSIDE, "reed(0, 100)", "reed(1, -1)");
        refused(Scene.SOME, STATE, "reed(2, 0)", "reed(2, 99)");
        refused(Scene.FULL, STATE, "reed(1, 50)");
        refused(Scene.FULL, FULL, "reed(0, 50)", "reed(2, 99)");
    }

    private static void fitsAndDig() {
        due.says(21, "OUTSIDE: kind; UNKNOWN: k below -1.");
        refused(Scene.SOME, OUTSIDE, "fits(-1, 0)", "fits(3, 0)", "fits(MIN, -1)", "fits(MAX, -1)", "fits(3, -2)",
            "fits(-1, -2)", "fits(3, MIN)");
        refused(Scene.NEW, OUTSIDE, "fits(3, -1)", "fits(-1, -2)");
        refused(Scene.SOME, UNKNOWN, "fits(0, -2)", "fits(2, -2)", "fits(1, MIN)");
        refused(Scene.NEW, UNKNOWN, "fits(0, -2)");
        refused(Scene.NEW, PondRings.NONE, "fits(0, 0)", "fits(2, MAX)");
        due.says(22, "(1; as now, if there is none). OUTSIDE.");
        refused(Scene.SOME, OUTSIDE, "dig(-1)", "dig(2)", "dig(MIN)", "dig(MAX)");
        refused(Scene.NEW, OUTSIDE, "dig(-1)", "dig(2)");
        refused(Scene.SOME, PondRings.NONE, "dig(0)");
        refused(Scene.FULL, PondRings.NONE, "dig(0)");
        refused(Scene.FULL, 2, "dig(1)");
    }

    private static void sheet() {
        due.says(23, "UNKNOWN; OUTSIDE: sort, n above 60; SIZE.");
        cleared(Scene.SOME, UNKNOWN, "sheet(-1, 0, 1)", "sheet(4, 0, 1)", "sheet(MIN, 0, 1)", "sheet(MAX, 0, 1)",
            "sheet(4, 3, 1)", "sheet(-1, 0, 61)", "sheet(4, 0, -1)");
        cleared(Scene.SOME, OUTSIDE, "sheet(0, -1, 1)", "sheet(0, 3, 1)", "sheet(0, MIN, 1)", "sheet(0, MAX, 1)",
            "sheet(0, 0, 61)", "sheet(1, 1, MAX)", "sheet(3, 2, 61)", "sheet(0, 3, -1)", "sheet(0, -1, -1)",
            "sheet(2, 3, 61)", "sheet(3, 3, 1)");
        cleared(Scene.NEW, OUTSIDE, "sheet(0, 3, 0)", "sheet(0, 2, 61)");
        faulty(Scene.SOME, SIZE, "sheet(0, 0, -1)", "sheet(1, 2, -1)", "sheet(3, 1, -1)", "sheet(0, 0, MIN)");
        faulty(Scene.NEW, SIZE, "sheet(0, 0, -1)", "sheet(3, 2, MIN)");
    }

    private static void loseAndPut() {
        due.says(24, "0: it had nothing. UNKNOWN.");
        refused(Scene.SOME, UNKNOWN, "lose(-1)", "lose(4)", "lose(MIN)", "lose(MAX)");
        refused(Scene.SOME, 0, "lose(3)");
        refused(Scene.NEW, 0, "lose(0)", "lose(3)");
        due.says(25, "UNKNOWN; NULL; INDEX.");
        cleared(Scene.SOME, UNKNOWN, "put(-1, 0, 7)", "put(4, 0, 7)", "put(MIN, 0, 7)", "put(MAX, 0, 7)",
            "put(4, -1, 7)");
        faulty(Scene.SOME, NULL, "put(3, 0, 7)", "put(3, -1, 7)", "put(3, 60, 7)");
        faulty(Scene.NEW, NULL, "put(0, 0, 7)", "put(0, -1, 7)");
        faulty(Scene.SOME, INDEX, "put(0, -1, 7)", "put(0, 11, 7)", "put(1, 3, 7)", "put(2, 0, 7)", "put(0, MIN, 7)",
            "put(0, MAX, 7)", "put(0, 59, 7)", "put(0, 60, 7)");
        faulty(Scene.FULL, INDEX, "put(3, 60, 7)", "put(3, -1, 7)");
    }

    private static void cell() {
        due.says(26, "LOST: UNKNOWN, OUTSIDE: sort; FAULTS CAST (nothing is no CAST), NULL, INDEX.");
        cleared(Scene.SOME, LOST, "cell(-1, 0, 0)", "cell(4, 0, 0)", "cell(MIN, 0, 0)", "cell(MAX, 0, 0)",
            "cell(4, 0, 3)", "cell(4, -1, 0)", "cell(0, 0, -1)", "cell(0, 0, 3)", "cell(0, 0, MIN)", "cell(0, 0, MAX)",
            "cell(3, 0, 3)", "cell(0, -1, 3)", "cell(1, 3, -1)");
        faulty(Scene.SOME, CAST, "cell(0, 0, 1)", "cell(0, 0, 2)", "cell(1, 0, 0)", "cell(1, 0, 2)", "cell(2, 0, 0)",
            "cell(2, 0, 1)", "cell(0, -1, 1)", "cell(1, 3, 2)");
        faulty(Scene.SOME, NULL, "cell(3, 0, 0)", "cell(3, 0, 1)", "cell(3, 0, 2)", "cell(3, -1, 0)");
        faulty(Scene.NEW, NULL, "cell(0, 0, 0)", "cell(1, 60, 2)");
        faulty(Scene.SOME, INDEX, "cell(0, -1, 0)", "cell(0, 11, 0)", "cell(1, 3, 1)", "cell(2, 0, 2)",
            "cell(0, MIN, 0)", "cell(0, MAX, 0)", "cell(0, 59, 0)", "cell(0, 60, 0)");
        faulty(Scene.FULL, INDEX, "cell(3, 60, 2)", "cell(3, -1, 2)");
    }

    private static void copy() {
        due.says(27, "UNKNOWN; FAULTS NULL (the first, the other), CAST (unlike SORTS), INDEX: i, j, n below 0 or "
            + "beyond.");
        cleared(Scene.SOME, UNKNOWN, "copy(-1, 0, 0, 0, 1)", "copy(4, 0, 0, 0, 1)", "copy(0, 0, -1, 0, 1)",
            "copy(0, 0, 4, 0, 1)", "copy(MIN, 0, 0, 0, 1)", "copy(0, 0, MAX, 0, 1)", "copy(4, 0, 3, 0, 1)",
            "copy(3, 0, 4, 0, 1)", "copy(4, -1, 0, 0, 1)", "copy(0, 0, 4, 0, -1)");
        faulty(Scene.SOME, NULL, "copy(3, 0, 0, 0, 1)", "copy(0, 0, 3, 0, 1)", "copy(3, 0, 3, 0, 0)",
            "copy(3, 0, 1, 0, 1)", "copy(3, -1, 0, 0, 1)", "copy(0, 0, 3, -1, 1)", "copy(0, 0, 3, 0, -1)");
        faulty(Scene.NEW, NULL, "copy(0, 0, 1, 0, 0)", "copy(0, 0, 0, 0, 0)");
        faulty(Scene.SOME, CAST, "copy(0, 0, 1, 0, 1)", "copy(1, 0, 0, 0, 1)", "copy(0, 0, 2, 0, 0)",
            "copy(2, 0, 1, 0, 0)", "copy(0, -1, 1, 0, 1)", "copy(0, 0, 1, 4, 0)", "copy(1, 0, 2, 0, -1)");
        faulty(Scene.SOME, INDEX, "copy(1, -1, 1, 0, 1)", "copy(1, 0, 1, -1, 1)", "copy(1, 0, 1, 0, -1)",
            "copy(1, 0, 1, 0, 4)", "copy(1, 1, 1, 0, 3)", "copy(1, 0, 1, 1, 3)", "copy(1, 3, 1, 0, 1)",
            "copy(1, 0, 1, 3, 1)", "copy(1, 0, 1, 0, MAX)", "copy(1, 1, 1, 0, MAX)", "copy(1, 0, 1, 1, MAX)",
            "copy(1, MAX, 1, 0, MAX)", "copy(1, 0, 1, MAX, MAX)", "copy(1, MIN, 1, 0, 1)", "copy(1, 0, 1, MIN, 1)",
            "copy(1, 0, 1, 0, MIN)", "copy(2, 0, 2, 0, 1)");
        due.says(0, "INDEX (of cells from i on also where i is not 0 .. how many there are, if none of them is "
            + "taken, too)");
        faulty(Scene.SOME, INDEX, "copy(1, 4, 1, 0, 0)", "copy(1, 0, 1, 4, 0)", "copy(1, -1, 1, 0, 0)",
            "copy(1, 0, 1, -1, 0)", "copy(2, 1, 2, 0, 0)", "copy(2, 0, 2, 1, 0)", "copy(1, MAX, 1, 0, 0)");
        cleared(Scene.SOME, 0, "copy(1, 3, 1, 3, 0)", "copy(0, 11, 0, 0, 0)", "copy(2, 0, 2, 0, 0)");
    }

    private static void tellAndMake() {
        due.says(28, "TELLING of a WISH. UNKNOWN.");
        refused(Scene.SOME, UNKNOWN, "tell(-1)", "tell(3)", "tell(MIN)", "tell(MAX)");
        refused(Scene.NEW, UNKNOWN, "tell(0)");
        refused(Scene.FULL, UNKNOWN, "tell(6)");
        due.says(29, "How it is MADE. UNKNOWN.");
        refused(Scene.SOME, UNKNOWN, "make(-1)", "make(3)", "make(MIN)", "make(MAX)");
        refused(Scene.NEW, UNKNOWN, "make(0)");
        refused(Scene.FULL, UNKNOWN, "make(6)");
    }

    private static void as() {
        due.says(30, "UNKNOWN; OUTSIDE; CAST: it is none (each is a STONE, too; a GRAIN is a PEBBLE).");
        cleared(Scene.SOME, UNKNOWN, "as(-1, 0)", "as(3, 0)", "as(MIN, 0)", "as(MAX, 0)", "as(3, 3)", "as(-1, -1)");
        cleared(Scene.NEW, UNKNOWN, "as(0, 0)", "as(0, 3)");
        cleared(Scene.FULL, UNKNOWN, "as(6, 0)");
        cleared(Scene.SOME, OUTSIDE, "as(0, -1)", "as(0, 3)", "as(2, MIN)", "as(2, MAX)");
        faulty(Scene.SOME, CAST, "as(0, 1)", "as(0, 2)", "as(1, 2)");
        cleared(Scene.SOME, 1, "as(0, 0)", "as(1, 0)", "as(1, 1)", "as(2, 0)", "as(2, 1)", "as(2, 2)");
    }

    private static void many() {
        due.says(33, "OUTSIDE.");
        refused(Scene.SOME, OUTSIDE, "many(-1)", "many(5)", "many(MIN)", "many(MAX)");
        refused(Scene.NEW, OUTSIDE, "many(-1)", "many(5)");
        due.says(32, "The FAULT of the latest call that names one");
        refused(Scene.SOME, Scene.FAULT_OF_OTHERS, "fault()");
        refused(Scene.NEW, Scene.FAULT_OF_NEW, "fault()");
    }
}
