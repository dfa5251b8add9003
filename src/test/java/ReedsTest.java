/** Promises 19 to 22: reed, pull, fits, dig. */
public final class ReedsTest {
    private static final Due due = new Due("ReedsTest");

    public static void main(String[] args) {
        reed();
        pull();
        fitsWithoutReeds();
        fitsWithReeds();
        fitsAtTheEdges();
        dig();
        due.end();
    }

    private static void reed() {
        PondRings x = Ponds.with("p13;.#.");
        due.is("reed(3, 100)", x.reed(3, 100), PondRings.UNKNOWN);
        due.is("reed(-1, 0)", x.reed(-1, 0), PondRings.UNKNOWN);
        due.is("reed(1, 100)", x.reed(1, 100), PondRings.OUTSIDE);
        due.is("reed(0, -1)", x.reed(0, -1), PondRings.OUTSIDE);
        due.is("reed(1, 0)", x.reed(1, 0), PondRings.STATE);
        for (int r = 0; r < 6; r++) {
            due.is("reed " + r, x.reed(0, r % 2 * 99), r);
        }
        due.is("reed, land, when full", x.reed(1, 0), PondRings.STATE);
        due.is("reed, when full", x.reed(0, 0), PondRings.FULL);
        due.is("many(4)", x.many(4), 6);
    }

    private static void pull() {
        PondRings x = Ponds.with("p12;..");
        x.reed(0, 5);
        x.reed(1, 7);
        due.is("fits(0, -1)", x.fits(0, -1), 0);
        due.is("pull(3)", x.pull(3), PondRings.OUTSIDE);
        due.is("pull(-1)", x.pull(-1), PondRings.OUTSIDE);
        due.is("pull(0)", x.pull(0), 2);
        due.is("pull(1)", x.pull(1), 1);
        due.is("fits(0, -1)", x.fits(0, -1), 2);
        due.is("pull(1)", x.pull(1), 0);
        due.is("fits(0, -1)", x.fits(0, -1), 200);
    }

    private static void fitsWithoutReeds() {
        PondRings x = Ponds.with("p13;#..");
        for (int kind = 0; kind < 3; kind++) {
            due.is("fits(" + kind + ", -1)", x.fits(kind, -1), 200);
            due.is("fits(" + kind + ", 0)", x.fits(kind, 0), 100);
            due.is("fits(" + kind + ", 99)", x.fits(kind, 99), 199);
            due.is("fits(" + kind + ", 100)", x.fits(kind, 100), 200);
            due.is("fits(" + kind + ", 199)", x.fits(kind, 199), 299);
            due.is("fits(" + kind + ", 200)", x.fits(kind, 200), PondRings.NONE);
            due.is("fits(" + kind + ", MAX)", x.fits(kind, Integer.MAX_VALUE), PondRings.NONE);
        }
        due.is("fits(3, -2)", x.fits(3, -2), PondRings.OUTSIDE);
        due.is("fits(-1, 0)", x.fits(-1, 0), PondRings.OUTSIDE);
        due.is("fits(0, -2)", x.fits(0, -2), PondRings.UNKNOWN);
        PondRings land = Ponds.with("p11;#");
        due.is("fits(0, -1) of land", land.fits(0, -1), 0);
        due.is("fits(0, 0) of land", land.fits(0, 0), PondRings.NONE);
        due.is("fits(0, -1) of no pond", new PondRings().fits(0, -1), 0);
    }

    private static void list(PondRings x, int kind, int... want) {
        due.is("fits(" + kind + ", -1)", x.fits(kind, -1), want.length);
        for (int k = 0; k < want.length; k++) {
            due.is("fits(" + kind + ", " + k + ")", x.fits(kind, k), want[k]);
        }
        due.is("fits(" + kind + ", " + want.length + ")", x.fits(kind, want.length), PondRings.NONE);
    }

    private static void fitsWithReeds() {
        PondRings x = Ponds.with("p17;.....#.");
        x.reed(0, 50);
        list(x, 0, 50, 149, 248, 347, 446);
        list(x, 1, 50, 149, 248, 347);
        list(x, 2, 50, 149);
        x.reed(4, 50);
        list(x, 0, 248);
        list(x, 1, 248);
        list(x, 2);
        x.reed(2, 48);
        list(x, 0, 248);
        x.reed(2, 49);
        list(x, 0);
        PondRings y = Ponds.with("p13;.#.");
        y.reed(0, 5);
        y.reed(2, 5);
        list(y, 0);
    }

    private static void fitsAtTheEdges() {
        PondRings x = Ponds.with("p14;....");
        x.reed(3, 1);
        list(x, 0, 200, 301);
        due.is("pull(1)", x.pull(1), 0);
        x.reed(0, 99);
        list(x, 0, 99, 198, 297, 396);
        due.is("pull(1)", x.pull(1), 0);
        x.reed(0, 0);
        list(x, 0, 0);
        x.reed(0, 0);
        list(x, 0, 0);
    }

    /** Water that is dug brings rings nearer to one another, so no cell of land ever lets more be thrown at once. */
    private static void dig() {
        PondRings x = Ponds.with("p15;..#..");
        both(x, PondRings.NONE, 0);
        x.wish(0, 0);
        both(x, PondRings.NONE, 1);
        x.wish(0, 4);
        both(x, PondRings.NONE, 2);
        x.wish(2, 1);
        both(x, PondRings.NONE, 2);
        due.is("what was dug is land again", x.water(2), 0);
        due.is("ways are as they were", x.far(0, 4), PondRings.NONE);
        due.is("atOnce()", x.atOnce(), 0b011);
        due.is("dig(2)", x.dig(2), PondRings.OUTSIDE);
        due.is("dig(-1)", x.dig(-1), PondRings.OUTSIDE);
        PondRings open = Ponds.with("p13;...");
        open.wish(0, 0);
        open.wish(0, 2);
        both(open, PondRings.NONE, 1);
        both(new PondRings(), PondRings.NONE, 0);
    }

    private static void both(PondRings x, int place, int most) {
        due.is("dig(0)", x.dig(0), place);
        due.is("dig(1)", x.dig(1), most);
    }
}
