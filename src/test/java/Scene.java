import java.util.ArrayList;
import java.util.List;

/**
 * States in which calls are made. In each the latest call that names FAULTS came to one, so that it is seen
 * whether a call leaves it.
 */
enum Scene {
    /** No pond, nothing on the sheets. */
    NEW,
    /**
     * Six cells, the third is land; 3 stones, 3 wishes (one of each kind), 2 reeds; rows of 11 bytes (the pond's
     * text), of 3 shorts, of no ints; sheet 3 has nothing.
     */
    SOME,
    /** Three cells, the second is land; as many stones, wishes, reeds as there may be; sheet 3 has 60 ints. */
    FULL;

    static final int FAULT_OF_NEW = 1, FAULT_OF_OTHERS = 3;

    int fault() {
        return this == NEW ? FAULT_OF_NEW : FAULT_OF_OTHERS;
    }

    PondRings made() {
        PondRings x = new PondRings();
        for (String told : calls()) {
            Told.call(x, told);
        }
        return x;
    }

    List<String> calls() {
        List<String> all = new ArrayList<>();
        if (this == SOME) {
            some(all);
        } else if (this == FULL) {
            full(all);
        }
        all.add("put(1, 3, 0)");
        return all;
    }

    private static void some(List<String> all) {
        text(all, "p23;..#;...");
        all.addAll(List.of("stone(0, 0, 0)", "stone(1, 5, 1)", "stone(2, 3, 99)"));
        all.addAll(List.of("wish(0, 0)", "wish(1, 5)", "wish(2, 4)", "reed(0, 20)", "reed(5, 21)"));
        all.addAll(List.of("sheet(1, 1, 3)", "put(1, 0, 300)", "put(1, 2, -5)", "sheet(2, 2, 0)"));
        all.addAll(List.of("tell(2)", "make(2)"));
    }

    private static void full(List<String> all) {
        text(all, "p13;.#.");
        for (int k = 0; k < 8; k++) {
            all.add("stone(" + k % 3 + ", " + k % 2 * 2 + ", " + 14 * k + ")");
        }
        for (int k = 0; k < 6; k++) {
            all.add("wish(" + k % 3 + ", " + k / 3 * 2 + ")");
            all.add("reed(0, 50)");
        }
        all.addAll(List.of("sheet(1, 1, 3)", "sheet(3, 2, 60)", "put(3, 59, 65536)", "tell(1)"));
    }

    private static void text(List<String> all, String text) {
        all.add("sheet(0, 0, " + text.length() + ")");
        for (int i = 0; i < text.length(); i++) {
            all.add("put(0, " + i + ", " + (int) text.charAt(i) + ")");
        }
        all.add("pond(0, 0, 0, " + text.length() + ")");
    }
}
