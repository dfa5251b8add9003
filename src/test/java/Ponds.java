/** Ponds for the tests. */
final class Ponds {
    /** A long way round: 24 cells of water in one line. */
    static final String SNAKE = "p67;.......;######.;.......;.######;.......;######.";
    /** A longer one: 27 cells of water in one line, from cell 0 to cell 6. */
    static final String LONGEST = "p67;.#...#.;.#.#.#.;.#.#.#.;.#.#.#.;.#.#.#.;...#...";
    /** The cells of that line, one after the other. */
    static final int[] LINE = {0, 7, 14, 21, 28, 35, 36, 37, 30, 23, 16, 9, 2, 3, 4, 11, 18, 25, 32, 39, 40, 41, 34, 27,
        20, 13, 6};
    /** Eight cells of water, 0, 2, 4, 6, 14, 16, 18, 20, none of them beside another. */
    static final String APART = "p37;.#.#.#.;#######;.#.#.#.";
    static final String OPEN = "p67;.......;.......;.......;.......;.......;.......";
    /** The pond of the shared tests: 28 cells of water. */
    static final String ISLANDS = "p57;.......;.##.#..;...#...;.#...#.;...#...";

    private static final int[] REACH = {99, 3, 1};

    private Ponds() {
    }

    /**
     * In which minute two rings meet in the line, or NONE: the one thrown in minute 0 at its beginning, the other
     * one gap minutes later, so many steps away. They come towards one another and meet half way.
     */
    static int meetsInLine(int kind, int other, int steps, int gap) {
        int rounded = (steps + gap + 1) / 2;
        boolean met = gap <= steps && rounded <= REACH[kind] && rounded - gap <= REACH[other];
        return met ? (steps + gap) / 2 : PondRings.NONE;
    }

    /** Writes a text on a sheet of a sort, from cell i on. */
    static void write(PondRings x, int sheet, int sort, int i, String text) {
        x.sheet(sheet, sort, i + text.length());
        for (int at = 0; at < text.length(); at++) {
            x.put(sheet, i + at, text.charAt(at));
        }
    }

    /** What the class answers to a text. */
    static int read(PondRings x, String text) {
        write(x, 0, 0, 0, text);
        return x.pond(0, 0, 0, text.length());
    }

    static PondRings with(String text) {
        PondRings x = new PondRings();
        read(x, text);
        return x;
    }
}
