import java.util.ArrayList;
import java.util.Collections;
import java.util.List;

/** The bounds that promises 19 to 22 name, and those that the terms name for reeds and digging. */
public final class ReedsBoundsTest {
    private static final Due due = new Due("ReedsBoundsTest");
    private static final int UNKNOWN = -1, OUTSIDE = -2, FULL = -4, NONE = -9;
    private static final int[] REACH = {99, 3, 1};

    public static void main(String[] args) {
        sixAtMost();
        minutes();
        pull();
        fitsWithoutReeds();
        fitsInLine();
        fitsOfSix();
        fitsRefused();
        digWithoutLand();
        digWithLand();
        due.end();
    }

    private static void sixAtMost() {
        due.says(0, "REEDS, 6 at most, numbered by how many there are");
        PondRings x = Ponds.with("p13;.#.");
        for (int r = 0; r < 6; r++) {
            due.is(x, "many(4)", r);
            due.is(x, "reed(" + r % 2 * 2 + ", " + r + ")", r);
        }
        due.is(x, "reed(0, 0)", FULL);
        due.is(x, "many(4)", 6);
        due.is(x, "pull(1)", 5);
        due.is(x, "reed(0, 0)", 5);
        due.is(x, "reed(0, 0)", FULL);
        due.is(x, "pull(6)", 0);
        due.is(x, "reed(2, 9)", 0);
        due.is(x, "fits(0, -1)", 1);
        due.is(x, "fits(0, 0)", 209);
    }

    private static void minutes() {
        due.says(0, "to a CELL a RING came in a minute (0 .. 99)");
        PondRings x = Ponds.with(Ponds.OPEN);
        due.is(x, "reed(0, -1)", OUTSIDE);
        due.is(x, "reed(0, 100)", OUTSIDE);
        due.is(x, "reed(42, 0)", UNKNOWN);
        due.is(x, "reed(-1, 0)", UNKNOWN);
        due.is(x, "reed(0, 0)", 0);
        due.is(x, "fits(0, -1)", 1);
        due.is(x, "fits(0, 0)", 0);
        due.is(x, "pull(1)", 0);
        due.is(x, "reed(41, 99)", 0);
        due.is(x, "fits(2, -1)", 3);
        due.is(x, "fits(2, 2)", 4199);
        due.is(x, "fits(2, 1)", 4098);
        due.is(x, "fits(2, 0)", 3498);
        due.is(x, "fits(2, 3)", NONE);
        due.is(x, "fits(0, -1)", 42);
        due.is(x, "fits(0, 0)", 88);
    }

    private static void pull() {
        due.says(20, "The last k REEDS (0 .. as many as there are) are taken back: how many are left.");
        for (int k = 0; k <= 6; k++) {
            PondRings x = Ponds.with("p11;.");
            for (int r = 0; r < 6; r++) {
                // Only the last one spoils it.
                x.reed(0, r == 5 ? 8 : 7);
            }
            due.is(x, "pull(" + k + ")", 6 - k);
            due.is(x, "many(4)", 6 - k);
            due.is(x, "fits(0, -1)", k == 0 ? 0 : k == 6 ? 100 : 1);
            due.is(x, "pull(" + (7 - k) + ")", OUTSIDE);
            due.is(x, "pull(-1)", OUTSIDE);
            due.is(x, "pull(0)", 6 - k);
            due.is(x, "pull(" + (6 - k) + ")", 0);
            due.is(x, "pull(0)", 0);
            due.is(x, "pull(1)", OUTSIDE);
            due.is(x, "fits(0, -1)", 100);
        }
        PondRings full = Scene.FULL.made();
        due.is(full, "pull(6)", 0);
        due.is(full, "many(2)", 8);
        due.is(full, "many(3)", 6);
    }

    private static void fitsWithoutReeds() {
        due.says(21, "FITS of a kind: how many (k -1), the k-th: 100 times the CELL and the minute; NONE: there are "
            + "fewer.");
        PondRings x = Ponds.with(Ponds.OPEN);
        for (int kind = 0; kind < 3; kind++) {
            due.is(x, "fits(" + kind + ", -1)", 4200);
            for (int k : new int[] {0, 1, 99, 100, 101, 4100, 4199}) {
                due.is(x, "fits(" + kind + ", " + k + ")", k);
            }
            due.is(x, "fits(" + kind + ", 4200)", NONE);
            due.is(x, "fits(" + kind + ", MAX)", NONE);
        }
        PondRings land = Ponds.with("p12;##");
        due.is(land, "fits(0, -1)", 0);
        due.is(land, "fits(0, 0)", NONE);
        PondRings last = Ponds.with("p13;##.");
        due.is(last, "fits(1, -1)", 100);
        due.is(last, "fits(1, 0)", 200);
        due.is(last, "fits(1, 99)", 299);
        due.is(last, "fits(1, 100)", NONE);
    }

    /** One reed, at the ends and in the middle of a line, at minutes by which some throws would be too early. */
    private static void fitsInLine() {
        due.says(0, "FITS: a CELL of WATER and a minute (0 .. 99) in which a STONE of a kind thrown there would "
            + "have its RING at each REED's CELL in its minute");
        int[] minutes = {0, 1, 2, 3, 4, 12, 13, 14, 25, 26, 27, 98, 99};
        for (int at : new int[] {0, 13, 26}) {
            for (int minute : minutes) {
                PondRings x = Ponds.with(Ponds.LONGEST);
                x.reed(Ponds.LINE[at], minute);
                for (int kind = 0; kind < 3; kind++) {
                    list(x, kind, inLine(kind, at, minute));
                }
            }
        }
    }

    private static List<Integer> inLine(int kind, int at, int minute) {
        List<Integer> all = new ArrayList<>();
        for (int from = 0; from < Ponds.LINE.length; from++) {
            int steps = Math.abs(from - at);
            if (steps <= REACH[kind] && steps <= minute) {
                all.add(100 * Ponds.LINE[from] + minute - steps);
            }
        }
        Collections.sort(all);
        return all;
    }

    private static void list(PondRings x, int kind, List<Integer> want) {
        due.is(x, "fits(" + kind + ", -1)", want.size());
        for (int k = 0; k < want.size(); k++) {
            due.is(x, "fits(" + kind + ", " + k + ")", want.get(k));
        }
        due.is(x, "fits(" + kind + ", " + want.size() + ")", NONE);
        due.is(x, "fits(" + kind + ", MAX)", NONE);
    }

    private static void fitsOfSix() {
        due.says(0, "would have its RING at each REED's CELL in its minute");
        PondRings x = Ponds.with(Ponds.LONGEST);
        int[] places = {5, 15, 10, 0, 26, 11};
        for (int r = 0; r < 6; r++) {
            due.is("reed", x.reed(Ponds.LINE[places[r]], 7 + Math.abs(places[r] - 10)), r);
        }
        list(x, 0, List.of(100 * Ponds.LINE[10] + 7));
        list(x, 1, List.of());
        list(x, 2, List.of());
        for (int r = 5; r >= 0; r--) {
            x.pull(1);
            x.reed(Ponds.LINE[places[r]], 8 + Math.abs(places[r] - 10));
            // The first one alone is reached in time from the first 19 cells of the line.
            due.is("reed " + r + " a minute later: fits", x.fits(0, -1), r == 0 ? 19 : 0);
            x.pull(1);
        }
        PondRings apart = Ponds.with("p13;.#.");
        apart.reed(0, 5);
        apart.reed(2, 5);
        list(apart, 0, List.of());
        PondRings twice = Ponds.with("p12;..");
        twice.reed(1, 99);
        twice.reed(1, 99);
        list(twice, 0, List.of(98, 199));
        due.says(0, "the k-th, by CELLS, then by minutes");
        list(Ponds.with("p11;."), 0, firstMinutes());
    }

    private static List<Integer> firstMinutes() {
        List<Integer> all = new ArrayList<>();
        for (int minute = 0; minute <= 99; minute++) {
            all.add(minute);
        }
        return all;
    }

    private static void fitsRefused() {
        due.says(21, "OUTSIDE: kind; UNKNOWN: k below -1.");
        PondRings x = Ponds.with("p12;..");
        due.is(x, "fits(-1, -1)", OUTSIDE);
        due.is(x, "fits(3, -1)", OUTSIDE);
        due.is(x, "fits(3, -2)", OUTSIDE);
        due.is(x, "fits(0, -2)", UNKNOWN);
        due.is(x, "fits(2, MIN)", UNKNOWN);
    }

    private static void dig(PondRings x, int most) {
        due.is(x, "dig(0)", NONE);
        due.is(x, "dig(1)", most);
        due.is(x, "dig(-1)", OUTSIDE);
        due.is(x, "dig(2)", OUTSIDE);
        due.is("as many as now", Integer.bitCount(x.atOnce()), most);
    }

    private static void digWithoutLand() {
        due.says(0, "NONE: there is no LAND, or it is no more than now by any.");
        dig(new PondRings(), 0);
        PondRings open = Ponds.with("p13;...");
        dig(open, 0);
        open.wish(2, 0);
        dig(open, 1);
        open.wish(2, 2);
        dig(open, 1);
        open.wish(2, 0);
        open.wish(2, 1);
        open.wish(2, 2);
        open.wish(2, 2);
        dig(open, 1);
    }

    private static void digWithLand() {
        due.says(22, "how many could be thrown AT ONCE then (1; as now, if there is none)");
        dig(Ponds.with("p11;#"), 0);
        dig(Ponds.with("p67" + ";#######".repeat(6)), 0);
        PondRings apart = Ponds.with(Ponds.APART);
        int[] cells = {0, 2, 4, 6, 14, 20};
        for (int w = 0; w < 6; w++) {
            apart.wish(0, cells[w]);
            dig(apart, w + 1);
        }
        PondRings row = Ponds.with("p25;.....;#####");
        row.wish(0, 0);
        row.wish(0, 4);
        dig(row, 1);
        row.wish(2, 2);
        dig(row, 1);
        due.is(row, "water(5)", 0);
        due.is(row, "far(0, 4)", 4);
        due.is(row, "far(0, 9)", NONE);
    }
}
