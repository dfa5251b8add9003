import java.util.ArrayList;
import java.util.List;

/**
 * An object seen from all sides: pond, stones, wishes, plans, sheets, reeds, TRACE; not its FAULT, which looking
 * changes. The object is used up by it.
 */
final class Look {
    private final PondRings x;
    private final List<String> seen = new ArrayList<>();

    private Look(PondRings x) {
        this.x = x;
    }

    /** What was asked, with its answers. */
    static List<String> at(PondRings x) {
        Look look = new Look(x);
        look.pond();
        look.stones();
        look.wishes();
        look.sheets();
        look.reeds();
        return look.seen;
    }

    private long ask(String told) {
        long answer = Told.call(x, told);
        seen.add(told + " = " + answer);
        return answer;
    }

    private void pond() {
        for (int what = 0; what <= 4; what++) {
            ask("many(" + what + ")");
        }
        ask("trace()");
        for (int c = 0; c < x.many(0); c++) {
            ask("water(" + c + ")");
            ask("far(0, " + c + ")");
        }
    }

    private void stones() {
        for (int s = 0; s < x.many(2); s++) {
            for (int what = 0; what <= 3; what++) {
                ask("ofStone(" + s + ", " + what + ")");
            }
            ask("ring(" + s + ", " + (x.ofStone(s, 2) + 1) + ")");
        }
        for (int what = 0; what <= 2; what++) {
            ask("first(" + what + ")");
        }
    }

    private void wishes() {
        for (int w = 0; w < x.many(3); w++) {
            ask("ofWish(" + w + ", 0)");
            ask("ofWish(" + w + ", 1)");
            ask("apart(" + w + ", 0)");
            ask("apart(0, " + w + ")");
            ask("soonest(" + w + ")");
            ask("alone(" + w + ")");
        }
        ask("soonest(-1)");
        ask("alone(-1)");
        ask("atOnce()");
        ask("sunset(1)");
        ask("dig(0)");
        ask("dig(1)");
    }

    private void sheets() {
        for (int k = 0; k < 4; k++) {
            for (int sort = 0; sort < 3; sort++) {
                int i = 0;
                while (ask("cell(" + k + ", " + i + ", " + sort + ")") != PondRings.LOST) {
                    i++;
                }
                ask("fault()");
            }
        }
    }

    /** A reed is only seen by what fits: with it, and when it is pulled. */
    private void reeds() {
        do {
            ask("fits(0, -1)");
            ask("fits(1, 0)");
            ask("fits(2, 1)");
        } while (ask("pull(1)") >= 0);
    }
}
