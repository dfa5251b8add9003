/** Promises 11 to 18: wish, ofWish, drop, apart, atOnce, soonest, alone, sunset. */
public final class WishesTest {
    private static final Due due = new Due("WishesTest");

    public static void main(String[] args) {
        wish();
        ofWish();
        drop();
        apart();
        atOnce();
        soonest();
        soonestAfterChanges();
        alone();
        sunset();
        due.end();
    }

    private static PondRings wishes(String text, int... kindsAndCells) {
        PondRings x = Ponds.with(text);
        for (int i = 0; i < kindsAndCells.length; i += 2) {
            due.is("wish(" + kindsAndCells[i] + ", " + kindsAndCells[i + 1] + ")",
                    x.wish(kindsAndCells[i], kindsAndCells[i + 1]), i / 2);
        }
        return x;
    }

    private static void wish() {
        PondRings x = Ponds.with("p13;.#.");
        due.is("wish(9, 3)", x.wish(9, 3), PondRings.UNKNOWN);
        due.is("wish(0, -1)", x.wish(0, -1), PondRings.UNKNOWN);
        due.is("wish(3, 1)", x.wish(3, 1), PondRings.OUTSIDE);
        due.is("wish(-1, 0)", x.wish(-1, 0), PondRings.OUTSIDE);
        due.is("wish(0, 1)", x.wish(0, 1), PondRings.STATE);
        for (int w = 0; w < 6; w++) {
            due.is("wish " + w, x.wish(w % 3, w % 2 * 2), w);
        }
        due.is("wish, land, when full", x.wish(0, 1), PondRings.STATE);
        due.is("wish, when full", x.wish(0, 0), PondRings.FULL);
        due.is("many(3)", x.many(3), 6);
    }

    private static void ofWish() {
        PondRings x = wishes("p13;...", 2, 1, 0, 2);
        due.is("ofWish(0, 0)", x.ofWish(0, 0), 2);
        due.is("ofWish(0, 1)", x.ofWish(0, 1), 1);
        due.is("ofWish(1, 0)", x.ofWish(1, 0), 0);
        due.is("ofWish(1, 1)", x.ofWish(1, 1), 2);
        due.is("ofWish(2, 5)", x.ofWish(2, 5), PondRings.UNKNOWN);
        due.is("ofWish(-1, 0)", x.ofWish(-1, 0), PondRings.UNKNOWN);
        due.is("ofWish(0, 2)", x.ofWish(0, 2), PondRings.OUTSIDE);
        due.is("ofWish(0, -1)", x.ofWish(0, -1), PondRings.OUTSIDE);
    }

    private static void drop() {
        PondRings x = wishes("p13;...", 0, 0, 1, 1, 2, 2);
        due.is("drop(4)", x.drop(4), PondRings.OUTSIDE);
        due.is("drop(-1)", x.drop(-1), PondRings.OUTSIDE);
        due.is("drop(0)", x.drop(0), 3);
        due.is("drop(1)", x.drop(1), 2);
        due.is("ofWish(2, 0)", x.ofWish(2, 0), PondRings.UNKNOWN);
        due.is("ofWish(1, 0)", x.ofWish(1, 0), 1);
        due.is("drop(2)", x.drop(2), 0);
        due.is("atOnce()", x.atOnce(), 0);
    }

    private static void apart() {
        PondRings x = wishes("p17;.....#.", 0, 0, 0, 4, 2, 3, 0, 6, 0, 0, 1, 4);
        int[][] want = {
            {-1, 5, 0, 0, 1, 5},
            {5, -1, 2, 0, 5, 1},
            {0, 2, -1, 0, 0, 2},
            {0, 0, 0, -1, 0, 0},
            {1, 5, 0, 0, -1, 5},
            {3, 1, 2, 0, 3, -1}};
        for (int w = 0; w < 6; w++) {
            for (int other = 0; other < 6; other++) {
                due.is("apart(" + w + ", " + other + ")", x.apart(w, other), want[w][other]);
            }
        }
        due.is("apart(6, 0)", x.apart(6, 0), PondRings.UNKNOWN);
        due.is("apart(0, 6)", x.apart(0, 6), PondRings.UNKNOWN);
        due.is("apart(-1, 0)", x.apart(-1, 0), PondRings.UNKNOWN);
        PondRings far = wishes(Ponds.SNAKE, 0, 0, 0, 41);
        due.is("the snake's ends", far.apart(0, 1), 24);
        PondRings stones = Ponds.with("p12;..");
        stones.stone(0, 0, 0);
        stones.wish(0, 1);
        due.is("stones do not count", stones.alone(0), 0);
    }

    private static void atOnce() {
        due.is("atOnce of none", Ponds.with("p12;..").atOnce(), 0);
        due.is("atOnce of two that meet", wishes("p12;..", 0, 0, 0, 1).atOnce(), 1);
        due.is("atOnce across land", wishes("p13;.#.", 0, 0, 0, 2).atOnce(), 3);
        due.is("atOnce of grains", wishes("p17;.......", 2, 3, 2, 0, 2, 1, 2, 6).atOnce(), 0b1011);
        due.is("atOnce, not the first", wishes("p17;.......", 2, 2, 2, 1, 2, 4).atOnce(), 0b110);
        due.is("atOnce of several the least", wishes("p17;.......", 2, 0, 2, 1, 2, 5, 2, 6).atOnce(), 0b0101);
        due.is("atOnce of six", wishes("p61;.;#;.;#;.;.", 0, 0, 0, 2, 0, 4, 0, 0, 0, 2, 0, 5).atOnce(), 0b111);
    }

    private static void plan(String what, PondRings x, int last, int... minutes) {
        due.is(what + " soonest(-1)", x.soonest(-1), last);
        for (int w = 0; w < minutes.length; w++) {
            due.is(what + " soonest(" + w + ")", x.soonest(w), minutes[w]);
        }
        due.is(what + " soonest(" + minutes.length + ")", x.soonest(minutes.length), PondRings.UNKNOWN);
        due.is(what + " soonest(-2)", x.soonest(-2), PondRings.UNKNOWN);
    }

    private static void soonest() {
        plan("none", Ponds.with("p12;.."), PondRings.NONE);
        plan("one", wishes("p12;..", 0, 1), 0, 0);
        plan("two", wishes("p14;....", 0, 0, 0, 3), 4, 0, 4);
        plan("the middle first or last", wishes("p15;.....", 0, 2, 0, 0, 0, 4), 6, 3, 0, 6);
        plan("in a line", wishes("p15;.....", 0, 0, 0, 4, 0, 2), 6, 0, 6, 3);
        plan("one cell", wishes("p11;.", 0, 0, 2, 0, 1, 0, 0, 0, 2, 0, 2, 0), 5, 0, 1, 2, 3, 4, 5);
        plan("across land", wishes("p13;.#.", 0, 0, 0, 2), 0, 0, 0);
        plan("a grain ahead of the ring", wishes("p17;.......", 0, 6, 2, 0), 0, 0, 0);
        plan("the snake", wishes(Ponds.SNAKE, 0, 0, 0, 41, 0, 0, 0, 41, 0, 0, 0, 41), 28, 0, 26, 1, 27, 2, 28);
    }

    private static void soonestAfterChanges() {
        PondRings x = wishes("p14;....", 0, 0, 0, 3);
        plan("two", x, 4, 0, 4);
        due.is("sunset(2)", x.sunset(2), 1);
        due.is("alone(-1)", x.alone(-1), 4);
        plan("two, after other plans", x, 4, 0, 4);
        due.is("wish(0, 2)", x.wish(0, 2), 2);
        plan("three", x, 5, 0, 5, 3);
        due.is("drop(9)", x.drop(9), PondRings.OUTSIDE);
        plan("three, after a refusal", x, 5, 0, 5, 3);
        due.is("drop(2)", x.drop(2), 1);
        plan("one", x, 0, 0);
        due.is("wish(0, 1)", x.wish(0, 1), 1);
        plan("another two", x, 2, 0, 2);
    }

    private static void alone() {
        PondRings x = Ponds.with("p15;.....");
        due.is("alone(-1) of none", x.alone(-1), PondRings.NONE);
        due.is("alone(0) of none", x.alone(0), PondRings.UNKNOWN);
        due.is("alone(-1) of one", wishes("p12;..", 0, 1).alone(-1), 0);
        due.is("alone(-1) across land", wishes("p13;.#.", 0, 0, 0, 2).alone(-1), 0);
        x = wishes("p15;.....", 0, 2, 0, 0, 0, 4, 0, 1);
        int[] want = {0, 3, 8, 12};
        for (int w = 0; w < 4; w++) {
            due.is("alone(" + w + ")", x.alone(w), want[w]);
        }
        due.is("alone(-1)", x.alone(-1), 12);
        due.is("alone(4)", x.alone(4), PondRings.UNKNOWN);
        due.is("alone(-2)", x.alone(-2), PondRings.UNKNOWN);
    }

    private static void sunset() {
        PondRings x = wishes("p15;.....", 0, 2, 0, 0, 0, 4, 2, 0);
        due.is("sunset(-1)", x.sunset(-1), PondRings.OUTSIDE);
        due.is("sunset(21)", x.sunset(21), PondRings.OUTSIDE);
        due.is("sunset(0)", x.sunset(0), 0b1100);
        due.is("sunset(1)", x.sunset(1), 0b1001);
        due.is("sunset(20)", x.sunset(20), 0b1111);
        due.is("sunset of none", Ponds.with("p12;..").sunset(20), 0);
        PondRings y = wishes("p14;....", 0, 0, 0, 3);
        due.is("sunset(3)", y.sunset(3), 1);
        due.is("sunset(4)", y.sunset(4), 3);
        PondRings snake = wishes(Ponds.SNAKE, 0, 0, 0, 41, 0, 0, 0, 41);
        due.is("the snake's sunset(20)", snake.sunset(20), 0b0101);
    }
}
