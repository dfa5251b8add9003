/** Ponds for the tests. */
final class Ponds {
    /** A long way round: 24 cells of water in one line. */
    static final String SNAKE = "p67;.......;######.;.......;.######;.......;######.";
    static final String OPEN = "p67;.......;.......;.......;.......;.......;.......";
    /** The pond of the shared tests: 28 cells of water. */
    static final String ISLANDS = "p57;.......;.##.#..;...#...;.#...#.;...#...";

    private Ponds() {
    }

    /** Writes a text on a sheet of a sort, from cell i on. */
    static void write(PondRings x, int sheet, int sort, int i, String text) {
        x.sheet(sheet, sort, i + text.length());
        for (int at = 0; at < text.length(); at++) {
            x.put(sheet, i + at, text.charAt(at));
        }
    }

    /** What the class answers to a text. */
    static int read(PondRings x, String text) {
        write(x, 0, 0, 0, text);
        return x.pond(0, 0, 0, text.length());
    }

    static PondRings with(String text) {
        PondRings x = new PondRings();
        read(x, text);
        return x;
    }
}
