/** The bounds that promises 5 to 10 name, and those that the terms name for stones and rings. */
public final class StonesBoundsTest {
    private static final Due due = new Due("StonesBoundsTest");
    private static final int UNKNOWN = -1, OUTSIDE = -2, FULL = -4, NONE = -9;

    public static void main(String[] args) {
        eightAtMost();
        minutesAndKinds();
        over();
        back();
        ringMinutes();
        ringReaches();
        ringSets();
        meetInLine();
        meetSeveral();
        firstOfFew();
        firstOfSeveral();
        firstBeyondTheMinutes();
        due.end();
    }

    private static void eightAtMost() {
        due.says(0, "STONES, 8 at most, numbered by how many there are");
        PondRings x = Ponds.with("p13;.#.");
        for (int s = 0; s < 8; s++) {
            due.is(x, "many(2)", s);
            due.is(x, "ofStone(" + s + ", 0)", UNKNOWN);
            due.is(x, "stone(" + s % 3 + ", 0, " + s + ")", s);
            due.is(x, "ofStone(" + s + ", 2)", s);
        }
        due.is(x, "stone(0, 0, 0)", FULL);
        due.is(x, "many(2)", 8);
        due.is(x, "back(1)", 7);
        due.is(x, "stone(1, 2, 99)", 7);
        due.is(x, "ofStone(7, 1)", 2);
        due.is(x, "ofStone(7, 2)", 99);
        due.is(x, "stone(0, 0, 0)", FULL);
        due.is(x, "back(8)", 0);
        due.is(x, "stone(0, 0, 0)", 0);
    }

    private static void minutesAndKinds() {
        due.says(0, "each of a kind, thrown into a CELL of WATER in a minute (0 .. 99)");
        PondRings x = Ponds.with(Ponds.OPEN);
        due.is(x, "stone(0, 0, 0)", 0);
        due.is(x, "stone(0, 0, -1)", OUTSIDE);
        due.is(x, "stone(2, 41, 99)", 1);
        due.is(x, "stone(2, 41, 100)", OUTSIDE);
        due.is(x, "stone(1, 42, 50)", UNKNOWN);
        due.is(x, "stone(1, -1, 50)", UNKNOWN);
        due.is(x, "stone(3, 0, 0)", OUTSIDE);
        due.is(x, "stone(-1, 0, 0)", OUTSIDE);
        due.is(x, "stone(1, 20, 50)", 2);
        int[][] want = {{0, 0, 0}, {2, 41, 99}, {1, 20, 50}};
        due.says(6, "Of a STONE: 0 kind, 1 CELL, 2 minute, 3 the minute in which it is OVER.");
        for (int s = 0; s < 3; s++) {
            for (int what = 0; what < 3; what++) {
                due.is(x, "ofStone(" + s + ", " + what + ")", want[s][what]);
            }
        }
        due.is(x, "ofStone(0, 4)", OUTSIDE);
        due.is(x, "ofStone(0, -1)", OUTSIDE);
        due.is(x, "ofStone(3, 3)", UNKNOWN);
    }

    private static void over() {
        due.says(0, "It is OVER in the first minute, from the one in which it was thrown on, in which it is at no "
            + "CELL any more.");
        for (int wide = 1; wide <= 7; wide++) {
            PondRings x = Ponds.with("p1" + wide + ";" + ".".repeat(wide));
            for (int minute = 0; minute <= 99; minute += 99) {
                int[] lasts = {wide, Math.min(wide, 4), Math.min(wide, 2)};
                for (int kind = 0; kind < 3; kind++) {
                    due.is("stone", x.stone(kind, 0, minute), 0);
                    due.is("kind " + kind + " over in a row of " + wide, x.ofStone(0, 3), minute + lasts[kind]);
                    due.is("ring in its last minute", x.ring(0, minute + lasts[kind] - 1), 1L << lasts[kind] - 1);
                    due.is("ring when it is over", x.ring(0, minute + lasts[kind]), 0);
                    due.is("back(1)", x.back(1), 0);
                }
            }
        }
        PondRings line = Ponds.with(Ponds.LONGEST);
        due.is(line, "stone(0, 0, 99)", 0);
        due.is(line, "ofStone(0, 3)", 126);
        due.is(line, "stone(0, 3, 99)", 1);
        due.is(line, "ofStone(1, 3)", 113);
    }

    private static void back() {
        due.says(7, "The last k STONES (0 .. as many as there are) are taken back: how many are left.");
        for (int k = 0; k <= 8; k++) {
            PondRings x = Scene.FULL.made();
            due.is(x, "back(" + k + ")", 8 - k);
            due.is(x, "many(2)", 8 - k);
            due.is(x, "ofStone(" + (8 - k) + ", 0)", UNKNOWN);
            if (k < 8) {
                due.is(x, "ofStone(" + (7 - k) + ", 2)", 14 * (7 - k));
            }
            due.is(x, "back(" + (9 - k) + ")", OUTSIDE);
            due.is(x, "back(-1)", OUTSIDE);
            due.is(x, "back(0)", 8 - k);
            due.is(x, "back(" + (8 - k) + ")", 0);
            due.is(x, "back(0)", 0);
            due.is(x, "back(1)", OUTSIDE);
            due.is(x, "many(3)", 6);
            due.is(x, "many(4)", 6);
        }
    }

    private static void ringMinutes() {
        due.says(8, "CELLS at which a RING is in a minute (0 .. 999), as a set.");
        PondRings x = Ponds.with("p12;..");
        x.stone(0, 0, 0);
        x.stone(0, 0, 99);
        due.is(x, "ring(0, 0)", 1);
        due.is(x, "ring(0, 1)", 2);
        due.is(x, "ring(0, 2)", 0);
        due.is(x, "ring(0, 999)", 0);
        due.is(x, "ring(0, 1000)", PondRings.LOST);
        due.is(x, "ring(0, -1)", PondRings.LOST);
        due.is(x, "ring(1, 0)", 0);
        due.is(x, "ring(1, 98)", 0);
        due.is(x, "ring(1, 99)", 1);
        due.is(x, "ring(1, 100)", 2);
        due.is(x, "ring(1, 101)", 0);
        due.is(x, "ring(1, 999)", 0);
        due.is(x, "ring(2, 99)", PondRings.LOST);
    }

    private static void ringReaches() {
        due.says(0, "but no farther than it goes: a STONE's 99, a PEBBLE's 3, a GRAIN's 1");
        int[] reach = {26, 3, 1};
        for (int kind = 0; kind < 3; kind++) {
            PondRings x = Ponds.with(Ponds.LONGEST);
            x.stone(kind, 0, 99);
            for (int age = 0; age <= 26; age++) {
                long want = age <= reach[kind] ? 1L << Ponds.LINE[age] : 0;
                due.is("ring of kind " + kind + " at age " + age, x.ring(0, 99 + age), want);
            }
            due.is("before it was thrown", x.ring(0, 98), 0);
            due.is("at the end of the line", x.ring(0, 99 + 27), 0);
            due.is("over", x.ofStone(0, 3), 99 + reach[kind] + 1);
        }
    }

    private static void ringSets() {
        due.says(0, "Sets are told as bits (bit k for number k).");
        PondRings x = Ponds.with(Ponds.OPEN);
        for (int c = 0; c < 42; c++) {
            x.stone(0, c, 7);
            due.is("ring of cell " + c, x.ring(0, 7), 1L << c);
            due.is("back(1)", x.back(1), 0);
        }
        x.stone(0, 24, 0);
        due.is(x, "ring(0, 1)", 1L << 17 | 1L << 23 | 1L << 25 | 1L << 31);
        due.is(x, "ring(0, 2)", 1L << 10 | 1L << 16 | 1L << 18 | 1L << 22 | 1L << 26 | 1L << 30 | 1L << 32 | 1L << 38);
        due.is(x, "ring(0, 6)", 1L << 0 | 1L << 6);
        due.is(x, "ring(0, 7)", 0);
    }

    /** All kinds, all distances and all times between that a line of 27 cells has, at the first and last minutes. */
    private static void meetInLine() {
        due.says(9, "The first minute in which two MEET (what 0), the CELL (1); NONE.");
        for (int kinds = 0; kinds < 9; kinds++) {
            for (int steps = 0; steps <= 26; steps++) {
                PondRings x = Ponds.with(Ponds.LONGEST);
                for (int gap = 0; gap <= 28; gap++) {
                    x.stone(kinds / 3, Ponds.LINE[0], 99 - gap);
                    x.stone(kinds % 3, Ponds.LINE[steps], 99);
                    int met = Ponds.meetsInLine(kinds / 3, kinds % 3, steps, gap);
                    String pair = "kinds " + kinds / 3 + " and " + kinds % 3 + ", " + steps + " steps, later by " + gap;
                    due.is(pair + ": minute", x.meet(0, 1, 0), met == NONE ? NONE : met + 99 - gap);
                    due.is(pair + ": minute", x.meet(1, 0, 0), met == NONE ? NONE : met + 99 - gap);
                    due.is(pair + ": cell", x.meet(0, 1, 1),
                        met == NONE ? NONE : cellInLine(met, (steps + gap) % 2 == 1));
                    x.back(2);
                }
            }
        }
    }

    /** Rings that pass through one another meet at the lesser of two cells. */
    private static int cellInLine(int met, boolean passing) {
        int cell = Ponds.LINE[met];
        return passing ? Math.min(cell, Ponds.LINE[met + 1]) : cell;
    }

    private static void meetSeveral() {
        due.says(0, "They MEET at that CELL (of several the least)");
        PondRings x = Ponds.with("p33;...;...;...");
        x.stone(0, 0, 0);
        x.stone(0, 8, 0);
        due.is(x, "meet(0, 1, 0)", 2);
        due.is(x, "meet(0, 1, 1)", 2);
        x.stone(0, 2, 0);
        x.stone(0, 6, 0);
        due.is(x, "meet(2, 3, 0)", 2);
        due.is(x, "meet(2, 3, 1)", 0);
        due.says(0, "at the lesser of two such CELLS (of several the least); the first minute counts");
        x.stone(0, 7, 0);
        due.is(x, "meet(0, 4, 0)", 1);
        due.is(x, "meet(0, 4, 1)", 1);
        x.stone(0, 5, 0);
        due.is(x, "meet(3, 5, 0)", 1);
        due.is(x, "meet(3, 5, 1)", 3);
        x.stone(0, 3, 9);
        x.stone(0, 4, 9);
        due.is(x, "meet(6, 7, 0)", 9);
        due.is(x, "meet(6, 7, 1)", 3);
        due.is(x, "back(8)", 0);
        due.says(0, "the one RING is at the first of them in that minute, at the second in the next, the other one "
            + "the other way round");
        x.stone(0, 0, 0);
        x.stone(0, 1, 2);
        due.is(x, "meet(0, 1, 0)", NONE);
        x.stone(0, 1, 1);
        due.is(x, "meet(0, 2, 0)", 1);
        due.is(x, "meet(0, 2, 1)", 1);
    }

    private static void three(PondRings x, int lesser, int other, int minute) {
        due.is(x, "first(0)", lesser);
        due.is(x, "first(1)", other);
        due.is(x, "first(2)", minute);
    }

    private static void firstOfFew() {
        due.says(10, "The first two RINGS that MEET, of all: the lesser STONE (what 0), the other one (1), the "
            + "minute (2)");
        PondRings x = Ponds.with(Ponds.APART);
        three(x, NONE, NONE, NONE);
        x.stone(0, 0, 0);
        three(x, NONE, NONE, NONE);
        for (int s = 1; s < 8; s++) {
            x.stone(0, new int[] {0, 2, 4, 6, 14, 16, 18, 20}[s], 0);
            three(x, NONE, NONE, NONE);
        }
        x.back(1);
        x.stone(0, 0, 0);
        three(x, 0, 7, 0);
        due.is(x, "first(3)", OUTSIDE);
        due.is(x, "first(-1)", OUTSIDE);
        x.back(2);
        x.stone(0, 16, 99);
        x.stone(0, 16, 99);
        three(x, 6, 7, 99);
    }

    private static void firstOfSeveral() {
        due.says(10, "of several in one minute the lesser first, then the lesser other");
        int[][] cells = {{0, 2, 2, 4, 4, 6, 6, 0}, {0, 2, 4, 4, 6, 2, 14, 16}, {0, 0, 0, 0, 0, 0, 0, 0},
            {0, 2, 4, 6, 6, 4, 2, 14}};
        int[][] want = {{0, 7}, {1, 5}, {0, 1}, {1, 6}};
        for (int i = 0; i < cells.length; i++) {
            PondRings x = Ponds.with(Ponds.APART);
            for (int c : cells[i]) {
                x.stone(2, c, 50);
            }
            three(x, want[i][0], want[i][1], 50);
        }
        PondRings x = Ponds.with(Ponds.APART);
        int[] at = {0, 0, 2, 2, 4, 4, 6, 6};
        int[] minutes = {53, 53, 52, 52, 51, 51, 50, 50};
        for (int s = 0; s < 8; s++) {
            x.stone(0, at[s], minutes[s]);
        }
        for (int left = 8; left >= 2; left -= 2) {
            three(x, left - 2, left - 1, minutes[left - 1]);
            x.back(2);
        }
        three(x, NONE, NONE, NONE);
    }

    private static void firstBeyondTheMinutes() {
        due.says(10, "the minute (2)");
        PondRings x = Ponds.with(Ponds.LONGEST);
        x.stone(0, 6, 99);
        x.stone(0, 0, 99);
        three(x, 0, 1, 112);
        due.is(x, "meet(0, 1, 1)", Ponds.LINE[13]);
        x.back(1);
        x.stone(0, 0, 73);
        three(x, 0, 1, 99);
        x.back(1);
        x.stone(0, 0, 72);
        three(x, NONE, NONE, NONE);
    }
}
