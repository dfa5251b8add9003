/** Promises 28 to 31: tell, make, as, trace. */
public final class TellingTest {
    private static final Due due = new Due("TellingTest");
    private static int trace;

    public static void main(String[] args) {
        tell();
        make();
        wraps();
        as();
        due.end();
    }

    private static PondRings threeKinds() {
        PondRings x = Ponds.with("p17;.......");
        x.wish(0, 6);
        x.wish(1, 5);
        x.wish(2, 4);
        trace = 0;
        return x;
    }

    private static void traced(PondRings x, int... bodies) {
        for (int body : bodies) {
            trace = 31 * trace + body;
        }
        due.is("trace()", x.trace(), trace);
    }

    private static void tell() {
        PondRings x = threeKinds();
        due.is("tell(3)", x.tell(3), PondRings.UNKNOWN);
        due.is("tell(-1)", x.tell(-1), PondRings.UNKNOWN);
        traced(x);
        due.is("tell(0)", x.tell(0), 6);
        traced(x, 1);
        due.is("tell(1)", x.tell(1), 105);
        traced(x, 2, 1);
        due.is("tell(2)", x.tell(2), 108);
        traced(x, 3, 2, 1, 1);
    }

    private static void make() {
        PondRings x = threeKinds();
        due.is("make(3)", x.make(3), PondRings.UNKNOWN);
        due.is("make(-1)", x.make(-1), PondRings.UNKNOWN);
        traced(x);
        due.is("make(1)", x.make(1), 1);
        traced(x, 4);
        due.is("make(2)", x.make(2), 80);
        traced(x, 5);
        due.is("make(0)", x.make(0), 0);
        traced(x, 4);
    }

    private static void wraps() {
        PondRings x = threeKinds();
        for (int i = 0; i < 20; i++) {
            due.is("tell(2)", x.tell(2), 108);
            traced(x, 3, 2, 1, 1);
        }
    }

    private static void as() {
        PondRings x = threeKinds();
        for (int w = 0; w < 3; w++) {
            for (int kind = 0; kind < 3; kind++) {
                boolean is = w >= kind;
                due.is("as(" + w + ", " + kind + ")", x.as(w, kind), is ? 1 : -12);
                due.is("as(" + w + ", " + kind + ") fault()", x.fault(), is ? 0 : 2);
            }
        }
        due.is("as(3, 3)", x.as(3, 3), PondRings.UNKNOWN);
        due.is("as(-1, 0)", x.as(-1, 0), PondRings.UNKNOWN);
        due.is("as(0, 3)", x.as(0, 3), PondRings.OUTSIDE);
        due.is("as(0, -1)", x.as(0, -1), PondRings.OUTSIDE);
        due.is("trace() of as", x.trace(), 0);
    }
}
