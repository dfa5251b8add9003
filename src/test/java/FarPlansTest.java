/**
 * Plans in the ponds where six wishes take the longest: the class keeps minutes as bits of a long, so that it is
 * seen here that none is lost. All wishes are of kind STONE: two of them meet unless the one is thrown at least a
 * minute more after the other than they are far apart.
 */
public final class FarPlansTest {
    private static final Due due = new Due("FarPlansTest");
    private static final int SIX = 6;
    /** The ways between their cells take 44 or 45 steps at least, whichever is first: no pond is known with more. */
    private static final String STAR = "p67;#..#..#;.#...#.;..#.#..;#.....#;.##.##.;.......";
    private static final String SPIRAL = "p67;.....#.;.#.#.#.;#...#..;..#...#;.#.#.#.;.#.....";
    private static final String BRANCHES = "p67;...#...;.#...#.;..#.#..;##...#.;...#..#;.#..#..";
    /** The longest way that is known: 28 steps, from cell 7 to cell 39. */
    private static final String WINDING = "p67;...#...;.#.#.#.;#..#.#.;..#..#.;.#..#..;...#...";

    public static void main(String[] args) {
        due.says(0, "all WISHES are thrown, each in a minute of its own choice from 0 on, so that no two MEET, and the "
            + "last one is thrown as soon as it can be: in which minute; of several such plans the first as a row of "
            + "minutes.");
        due.is("soonest in the star", inAllTurns(STAR, 5, 34, 7, 1, 13, 28), 50);
        due.is("soonest in the spiral", inAllTurns(SPIRAL, 35, 11, 7, 6, 34, 30), 50);
        due.is("soonest in the branches", inAllTurns(BRANCHES, 38, 15, 35, 19, 27, 41), 49);
        due.is("soonest in the winding pond", inAllTurns(WINDING, 7, 39, 7, 39, 7, 39), 33);
        alone();
        due.end();
    }

    /** The same six wishes, each of them numbered first once: in which minute the last one is thrown. */
    private static int inAllTurns(String text, int... cells) {
        int last = -1;
        for (int turn = 0; turn < SIX; turn++) {
            int[] turned = new int[SIX];
            for (int w = 0; w < SIX; w++) {
                turned[w] = cells[(w + turn) % SIX];
            }
            last = soonest(text, turned);
        }
        return last;
    }

    private static int soonest(String text, int[] cells) {
        PondRings x = Ponds.with(text);
        for (int c : cells) {
            x.wish(0, c);
        }
        int[][] gaps = gaps(x, cells);
        int last = leastWalk(gaps, 0, 0, 0);
        int[] plan = new int[SIX];
        boolean found = firstPlan(gaps, plan, 0, last);
        due.is(text + ": a plan as short as the least walk", found ? 1 : 0, 1);
        due.is(text + ": soonest(-1)", x.soonest(-1), last);
        for (int w = 0; w < SIX; w++) {
            due.is(text + ": soonest(" + w + ")", x.soonest(w), plan[w]);
            x.stone(0, cells[w], x.soonest(w));
        }
        due.is(text + ": stones thrown by the plan meet first", x.first(2), PondRings.NONE);
        return x.soonest(-1);
    }

    private static int[][] gaps(PondRings x, int[] cells) {
        int[][] gaps = new int[SIX][SIX];
        for (int v = 0; v < SIX; v++) {
            for (int w = 0; w < SIX; w++) {
                gaps[v][w] = x.far(cells[v], cells[w]) + 1;
            }
        }
        return gaps;
    }

    /** By all orders; the gaps between any two are no longer than those by way of a third. */
    private static int leastWalk(int[][] gaps, int thrown, int latest, int minute) {
        if (thrown == (1 << SIX) - 1) {
            return minute;
        }
        int least = Integer.MAX_VALUE;
        for (int w = 0; w < SIX; w++) {
            if ((thrown >> w & 1) == 0) {
                int then = thrown == 0 ? 0 : minute + gaps[latest][w];
                least = Math.min(least, leastWalk(gaps, thrown | 1 << w, w, then));
            }
        }
        return least;
    }

    /** By numbers, each tried from minute 0 on: the first that is found is the first as a row. */
    private static boolean firstPlan(int[][] gaps, int[] plan, int w, int last) {
        if (w == SIX) {
            return true;
        }
        for (int minute = 0; minute <= last; minute++) {
            plan[w] = minute;
            if (isApart(gaps, plan, w) && firstPlan(gaps, plan, w + 1, last)) {
                return true;
            }
        }
        return false;
    }

    private static boolean isApart(int[][] gaps, int[] plan, int w) {
        for (int v = 0; v < w; v++) {
            if (Math.abs(plan[v] - plan[w]) < gaps[v][w]) {
                return false;
            }
        }
        return true;
    }

    private static void alone() {
        due.says(0, "ALONE: by numbers, each is thrown in the least minute, 0 on, so that it MEETS none of those "
            + "ahead of it: the minutes.");
        PondRings x = Ponds.with(WINDING);
        due.is(x, "far(7, 39)", 28);
        for (int w = 0; w < SIX; w++) {
            x.wish(0, w % 2 == 0 ? 7 : 39);
        }
        due.is(x, "apart(0, 1)", 29);
        for (int w = 0; w < SIX; w++) {
            due.is(x, "alone(" + w + ")", 29 * w);
        }
        due.is(x, "alone(-1)", 145);
    }
}
