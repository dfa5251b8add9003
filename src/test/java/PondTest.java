/** Promises 1 to 4 and 33: a new object, pond, water, far, many. */
public final class PondTest {
    private static final Due due = new Due("PondTest");

    public static void main(String[] args) {
        newObject();
        textsTaken();
        firstFaults();
        refusals();
        faults();
        allAnew();
        sorts();
        water();
        far();
        many();
        due.end();
    }

    private static void newObject() {
        PondRings x = new PondRings();
        for (int what = 0; what <= 4; what++) {
            due.is("new: many(" + what + ")", x.many(what), 0);
        }
        for (int k = 0; k < 4; k++) {
            due.is("new: lose(" + k + ")", x.lose(k), 0);
        }
        due.is("new: trace()", x.trace(), 0);
        due.is("new: fault()", x.fault(), 0);
        due.is("new: water(0)", x.water(0), PondRings.UNKNOWN);
        due.is("new: first(0)", x.first(0), PondRings.NONE);
    }

    private static void textsTaken() {
        taken("p11;.", 1, 1);
        taken("p11;#", 1, 1);
        taken("p17;.#.#.#.", 7, 7);
        taken("p61;.;.;#;.;.;.", 6, 1);
        taken(Ponds.OPEN, 42, 7);
        taken(Ponds.SNAKE, 42, 7);
        taken(Ponds.ISLANDS, 35, 7);
    }

    private static void taken(String text, int cells, int wide) {
        PondRings x = new PondRings();
        due.is("pond " + text, Ponds.read(x, text), cells);
        due.is("many(0) " + text, x.many(0), cells);
        due.is("many(1) " + text, x.many(1), wide);
        due.is("fault() " + text, x.fault(), 0);
    }

    private static void firstFaults() {
        firstFault("", 0);
        firstFault("q", 0);
        firstFault("P11;.", 0);
        firstFault("p", 1);
        firstFault("p0", 1);
        firstFault("p7", 1);
        firstFault("p:", 1);
        firstFault("p2", 2);
        firstFault("p20", 2);
        firstFault("p28", 2);
        firstFault("p29;", 2);
        firstFault("p12", 3);
        firstFault("p12.", 3);
        firstFault("p12;", 4);
        firstFault("p12;;", 4);
        firstFault("p12;.", 5);
        firstFault("p12;.;", 5);
        firstFault("p12;..;", 6);
        firstFault("p12;...", 6);
        firstFault("p12;...x", 6);
        firstFault("p22;..", 6);
        firstFault("p22;....", 6);
        firstFault("p22;..;", 7);
        firstFault("p22;..;.", 8);
        firstFault("p22;..;.x", 8);
        firstFault("p22;..;..p", 9);
        firstFault(Ponds.OPEN + ";", 51);
        firstFault(Ponds.OPEN.substring(0, 50), 50);
    }

    private static void firstFault(String text, int place) {
        PondRings x = Ponds.with("p12;.#");
        due.is("wish", x.wish(0, 0), 0);
        due.is("cast", x.cell(0, 0, 2), PondRings.LOST);
        due.is("pond " + text, Ponds.read(x, text), -100 - place);
        due.is("a wrong text changes nothing: many(0)", x.many(0), 2);
        due.is("a wrong text changes nothing: many(3)", x.many(3), 1);
        due.is("a first fault is no FAULT", x.fault(), 0);
    }

    private static void refusals() {
        PondRings x = Ponds.with("p12;.#");
        due.is("pond(-1, 9, 0, 6)", x.pond(-1, 9, 0, 6), PondRings.UNKNOWN);
        due.is("pond(4, 0, 0, 6)", x.pond(4, 0, 0, 6), PondRings.UNKNOWN);
        due.is("pond(0, 3, 0, -1)", x.pond(0, 3, 0, -1), PondRings.OUTSIDE);
        due.is("pond(1, -1, 0, 6)", x.pond(1, -1, 0, 6), PondRings.OUTSIDE);
        due.is("many(0)", x.many(0), 2);
    }

    private static void faults() {
        PondRings x = Ponds.with("p12;.#");
        faulty(x, 0, 1, -1, -1, 2);
        faulty(x, 0, 2, 0, 6, 2);
        faulty(x, 1, 1, -1, -1, 1);
        faulty(x, 0, 0, -1, -1, 4);
        faulty(x, 0, 0, 0, Integer.MIN_VALUE, 4);
        faulty(x, 0, 0, -1, 0, 3);
        faulty(x, 0, 0, 7, 0, 3);
        faulty(x, 0, 0, 0, 7, 3);
        faulty(x, 0, 0, 1, 6, 3);
        faulty(x, 0, 0, 1, Integer.MAX_VALUE, 3);
        faulty(x, 0, 0, Integer.MAX_VALUE, 1, 3);
        faulty(x, 0, 0, Integer.MIN_VALUE, Integer.MAX_VALUE, 3);
        due.is("none taken at the end", x.pond(0, 0, 6, 0), -100);
        due.is("fault()", x.fault(), 0);
        due.is("pond(0, 0, 0, 6)", x.pond(0, 0, 0, 6), 2);
    }

    private static void faulty(PondRings x, int sheet, int sort, int i, int n, int fault) {
        String call = "pond(" + sheet + ", " + sort + ", " + i + ", " + n + ")";
        due.is(call, x.pond(sheet, sort, i, n), -10 - fault);
        due.is(call + " fault()", x.fault(), fault);
        due.is(call + " many(0)", x.many(0), 2);
    }

    private static void allAnew() {
        PondRings x = Ponds.with("p13;...");
        x.stone(0, 0, 0);
        x.wish(0, 1);
        x.wish(2, 1);
        x.reed(2, 2);
        x.tell(0);
        due.is("soonest(-1)", x.soonest(-1), 1);
        due.is("pond again", x.pond(0, 0, 0, 7), 3);
        for (int what = 2; what <= 4; what++) {
            due.is("anew: many(" + what + ")", x.many(what), 0);
        }
        due.is("anew: trace() stays", x.trace(), 1);
        due.is("anew: soonest(-1)", x.soonest(-1), PondRings.NONE);
        due.is("anew: ofStone(0, 0)", x.ofStone(0, 0), PondRings.UNKNOWN);
        due.is("anew: the sheet stays", x.cell(0, 0, 0), 'p');
        due.is("anew: wish(0, 0)", x.wish(0, 0), 0);
        due.is("anew: soonest(-1) of one", x.soonest(-1), 0);
        due.is("before: far(0, 2)", x.far(0, 2), 2);
        due.is("a longer pond", Ponds.read(x, "p32;..;.#;.."), 6);
        due.is("anew: far(0, 5)", x.far(0, 5), 3);
        due.is("anew: far(1, 5)", x.far(1, 5), 4);
        due.is("a wrong text between", Ponds.read(x, "p13;..x"), -106);
        due.is("a pond of less water", Ponds.read(x, "p13;#.#"), 3);
        due.is("anew: water(0)", x.water(0), 0);
        due.is("anew: water(1)", x.water(1), 1);
        due.is("anew: far(0, 2)", x.far(0, 2), PondRings.NONE);
    }

    private static void sorts() {
        for (int sort = 0; sort < 3; sort++) {
            PondRings x = new PondRings();
            Ponds.write(x, 3, sort, 4, "p12;.#");
            due.is("from 4 on", x.pond(3, sort, 4, 6), 2);
            due.is("from 4 on, shorter", x.pond(3, sort, 4, 5), -105);
            due.is("from 3 on", x.pond(3, sort, 3, 7), -100);
            x.put(3, 4, 'p' + 256);
            due.is("p and 256", x.pond(3, sort, 4, 6), sort == 0 ? 2 : -100);
            x.put(3, 4, 'p' + 65536);
            due.is("p and 65536", x.pond(3, sort, 4, 6), sort == 2 ? -100 : 2);
        }
    }

    private static void water() {
        PondRings x = Ponds.with("p23;.#.;##.");
        int[] wet = {1, 0, 1, 0, 0, 1};
        for (int c = 0; c < 6; c++) {
            due.is("water(" + c + ")", x.water(c), wet[c]);
        }
        due.is("water(-1)", x.water(-1), PondRings.UNKNOWN);
        due.is("water(6)", x.water(6), PondRings.UNKNOWN);
        due.is("water(64)", x.water(64), PondRings.UNKNOWN);
        due.is("water(MAX)", x.water(Integer.MAX_VALUE), PondRings.UNKNOWN);
        due.is("water(MIN)", x.water(Integer.MIN_VALUE), PondRings.UNKNOWN);
    }

    private static void far() {
        PondRings x = Ponds.with("p33;...;##.;...");
        due.is("far(0, 6)", x.far(0, 6), 6);
        due.is("far(6, 0)", x.far(6, 0), 6);
        due.is("far(2, 2)", x.far(2, 2), 0);
        due.is("far(2, 5)", x.far(2, 5), 1);
        due.is("far(3, 3)", x.far(3, 3), PondRings.NONE);
        due.is("far(0, 3)", x.far(0, 3), PondRings.NONE);
        due.is("far(3, 0)", x.far(3, 0), PondRings.NONE);
        due.is("far(0, 9)", x.far(0, 9), PondRings.UNKNOWN);
        due.is("far(-1, 0)", x.far(-1, 0), PondRings.UNKNOWN);
        PondRings y = Ponds.with("p23;..#;#..");
        due.is("no way round the end of a row", y.far(0, 5), 3);
        PondRings z = Ponds.with("p23;##.;.##");
        due.is("rows are not joined at their ends", z.far(2, 3), PondRings.NONE);
        PondRings s = Ponds.with(Ponds.SNAKE);
        due.is("the snake's ends", s.far(0, 41), 23);
    }

    private static void many() {
        PondRings x = Ponds.with("p23;...;...");
        x.stone(0, 0, 0);
        x.stone(0, 1, 0);
        x.stone(0, 2, 0);
        x.wish(0, 0);
        x.wish(0, 0);
        x.reed(0, 0);
        int[] want = {6, 3, 3, 2, 1};
        for (int what = 0; what < 5; what++) {
            due.is("many(" + what + ")", x.many(what), want[what]);
        }
        due.is("many(5)", x.many(5), PondRings.OUTSIDE);
        due.is("many(-1)", x.many(-1), PondRings.OUTSIDE);
    }
}
