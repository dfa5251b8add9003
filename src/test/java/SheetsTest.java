/** Promises 23 to 27 and 32: sheet, lose, put, cell, copy, fault. */
public final class SheetsTest {
    private static final Due due = new Due("SheetsTest");
    private static final int NULL = 1, CAST = 2, INDEX = 3, SIZE = 4;

    public static void main(String[] args) {
        sheet();
        lose();
        put();
        cell();
        copy();
        copyOverItself();
        fault();
        due.end();
    }

    private static void sheet() {
        PondRings x = new PondRings();
        due.is("sheet(4, 9, -1)", x.sheet(4, 9, -1), PondRings.UNKNOWN);
        due.is("sheet(-1, 0, 1)", x.sheet(-1, 0, 1), PondRings.UNKNOWN);
        due.is("sheet(0, 3, -1)", x.sheet(0, 3, -1), PondRings.OUTSIDE);
        due.is("sheet(0, -1, 1)", x.sheet(0, -1, 1), PondRings.OUTSIDE);
        due.is("sheet(0, 0, 61)", x.sheet(0, 0, 61), PondRings.OUTSIDE);
        due.is("sheet(0, 0, -1)", x.sheet(0, 0, -1), -10 - SIZE);
        due.is("fault()", x.fault(), SIZE);
        due.is("lose(0)", x.lose(0), 0);
        due.is("sheet(0, 2, 0)", x.sheet(0, 2, 0), 1);
        due.is("put(0, 0, 1)", x.put(0, 0, 1), -10 - INDEX);
        due.is("sheet(0, 2, 60)", x.sheet(0, 2, 60), 1);
        due.is("put(0, 59, 5)", x.put(0, 59, 5), 1);
        due.is("sheet(0, 3, 60)", x.sheet(0, 3, 60), PondRings.OUTSIDE);
        due.is("sheet(0, 1, MIN)", x.sheet(0, 1, Integer.MIN_VALUE), -10 - SIZE);
        due.is("a row stays", x.cell(0, 59, 2), 5);
        due.is("sheet(0, 2, 60)", x.sheet(0, 2, 60), 1);
        due.is("a new row is 0", x.cell(0, 59, 2), 0);
    }

    private static void lose() {
        PondRings x = new PondRings();
        x.sheet(3, 0, 5);
        due.is("lose(3)", x.lose(3), 1);
        due.is("lose(3)", x.lose(3), 0);
        due.is("lose(4)", x.lose(4), PondRings.UNKNOWN);
        due.is("lose(-1)", x.lose(-1), PondRings.UNKNOWN);
        due.is("put(3, 0, 0)", x.put(3, 0, 0), -10 - NULL);
    }

    private static void put() {
        PondRings x = new PondRings();
        due.is("put(4, 0, 0)", x.put(4, 0, 0), PondRings.UNKNOWN);
        due.is("put(0, -1, 0)", x.put(0, -1, 0), -10 - NULL);
        int[] values = {200, -129, 40000, -32769, 1 << 20, Integer.MIN_VALUE, 127, -128};
        for (int sort = 0; sort < 3; sort++) {
            x.sheet(sort, sort, 3);
            for (int v : values) {
                long want = sort == 0 ? (byte) v : sort == 1 ? (short) v : v;
                due.is("put(" + sort + ", 2, " + v + ")", x.put(sort, 2, v), 1);
                due.is("cell(" + sort + ", 2) of " + v, x.cell(sort, 2, sort), want);
            }
            due.is("the others stay", x.cell(sort, 1, sort), 0);
            due.is("put at 3", x.put(sort, 3, 0), -10 - INDEX);
            due.is("fault()", x.fault(), INDEX);
            due.is("put at -1", x.put(sort, -1, 0), -10 - INDEX);
            due.is("put at MAX", x.put(sort, Integer.MAX_VALUE, 0), -10 - INDEX);
            due.is("put at MIN", x.put(sort, Integer.MIN_VALUE, 0), -10 - INDEX);
        }
    }

    private static void lost(PondRings x, int k, int i, int sort, int fault) {
        String call = "cell(" + k + ", " + i + ", " + sort + ")";
        due.is(call, x.cell(k, i, sort), PondRings.LOST);
        due.is(call + " fault()", x.fault(), fault);
    }

    private static void cell() {
        PondRings x = new PondRings();
        x.sheet(0, 1, 2);
        x.put(0, 0, -7);
        due.is("cell(0, 0, 1)", x.cell(0, 0, 1), -7);
        lost(x, 4, 0, 9, 0);
        lost(x, -1, 0, 0, 0);
        lost(x, 0, 0, 3, 0);
        lost(x, 0, 0, -1, 0);
        lost(x, 0, 5, 0, CAST);
        lost(x, 0, 5, 2, CAST);
        lost(x, 1, 5, 2, NULL);
        lost(x, 0, 2, 1, INDEX);
        lost(x, 0, -1, 1, INDEX);
        due.is("cell(0, 1, 1)", x.cell(0, 1, 1), 0);
        due.is("fault()", x.fault(), 0);
    }

    private static void faulty(PondRings x, int[] call, int fault) {
        String told = "copy(" + call[0] + ", " + call[1] + ", " + call[2] + ", " + call[3] + ", " + call[4] + ")";
        due.is(told, x.copy(call[0], call[1], call[2], call[3], call[4]), -10 - fault);
        due.is(told + " fault()", x.fault(), fault);
    }

    private static void copy() {
        PondRings x = new PondRings();
        x.sheet(0, 0, 4);
        x.sheet(1, 0, 3);
        x.sheet(2, 1, 4);
        for (int i = 0; i < 4; i++) {
            x.put(0, i, i + 1);
        }
        due.is("copy(4, 0, 3, 0, 1)", x.copy(4, 0, 3, 0, 1), PondRings.UNKNOWN);
        due.is("copy(3, 0, -1, 0, 1)", x.copy(3, 0, -1, 0, 1), PondRings.UNKNOWN);
        faulty(x, new int[] {3, 0, 0, 0, 1}, NULL);
        faulty(x, new int[] {0, -1, 3, 0, 1}, NULL);
        faulty(x, new int[] {3, 0, 3, 0, 0}, NULL);
        faulty(x, new int[] {0, -1, 2, 0, 1}, CAST);
        faulty(x, new int[] {2, 0, 0, 0, 0}, CAST);
        faulty(x, new int[] {0, -1, 1, 0, 1}, INDEX);
        faulty(x, new int[] {0, 0, 1, -1, 1}, INDEX);
        faulty(x, new int[] {0, 0, 1, 0, -1}, INDEX);
        faulty(x, new int[] {0, 0, 1, 0, 4}, INDEX);
        faulty(x, new int[] {1, 0, 0, 0, 4}, INDEX);
        faulty(x, new int[] {0, 5, 1, 0, 0}, INDEX);
        faulty(x, new int[] {0, 0, 1, 4, 0}, INDEX);
        faulty(x, new int[] {0, 1, 1, 0, Integer.MAX_VALUE}, INDEX);
        faulty(x, new int[] {0, Integer.MAX_VALUE, 1, 0, Integer.MAX_VALUE}, INDEX);
        faulty(x, new int[] {0, 0, 1, Integer.MIN_VALUE, 1}, INDEX);
        due.is("nothing went", x.cell(1, 0, 0), 0);
        due.is("copy(0, 4, 1, 3, 0)", x.copy(0, 4, 1, 3, 0), 0);
        due.is("fault()", x.fault(), 0);
        due.is("copy(0, 1, 1, 0, 3)", x.copy(0, 1, 1, 0, 3), 3);
        for (int i = 0; i < 3; i++) {
            due.is("cell(1, " + i + ", 0)", x.cell(1, i, 0), i + 2);
            due.is("cell(0, " + i + ", 0)", x.cell(0, i, 0), i + 1);
        }
    }

    private static void copyOverItself() {
        int[][] moves = {{0, 1, 1, 1, 2, 3}, {1, 0, 2, 3, 4, 4}};
        for (int[] move : moves) {
            PondRings x = new PondRings();
            x.sheet(0, 2, 4);
            for (int i = 0; i < 4; i++) {
                x.put(0, i, i + 1);
            }
            due.is("copy in one sheet", x.copy(0, move[0], 0, move[1], 3), 3);
            for (int i = 0; i < 4; i++) {
                due.is("cell " + i, x.cell(0, i, 2), move[2 + i]);
            }
        }
    }

    private static void fault() {
        PondRings x = Ponds.with("p12;..");
        x.wish(0, 0);
        due.is("fault()", x.fault(), 0);
        spoil(x);
        due.is("pond, refused", x.pond(9, 0, 0, 0), PondRings.UNKNOWN);
        due.is("fault() after pond", x.fault(), 0);
        spoil(x);
        due.is("sheet", x.sheet(1, 0, 1), 1);
        due.is("fault() after sheet", x.fault(), 0);
        spoil(x);
        due.is("put, refused", x.put(9, 0, 0), PondRings.UNKNOWN);
        due.is("fault() after put", x.fault(), 0);
        spoil(x);
        due.is("cell, refused", x.cell(0, 0, 9), PondRings.LOST);
        due.is("fault() after cell", x.fault(), 0);
        spoil(x);
        due.is("copy, refused", x.copy(0, 0, 9, 0, 0), PondRings.UNKNOWN);
        due.is("fault() after copy", x.fault(), 0);
        spoil(x);
        due.is("as, refused", x.as(9, 0), PondRings.UNKNOWN);
        due.is("fault() after as", x.fault(), 0);
        spoil(x);
        due.is("as", x.as(0, 0), 1);
        due.is("fault() after as", x.fault(), 0);
        spoil(x);
        due.is("lose", x.lose(1), 1);
        due.is("water", x.water(9), PondRings.UNKNOWN);
        due.is("stone", x.stone(9, 0, 0), PondRings.OUTSIDE);
        due.is("tell", x.tell(0), 0);
        due.is("fits", x.fits(3, 0), PondRings.OUTSIDE);
        due.is("fault() after calls that name none", x.fault(), CAST);
        due.is("fault() again", x.fault(), CAST);
    }

    private static void spoil(PondRings x) {
        due.is("as(0, 2)", x.as(0, 2), -10 - CAST);
        due.is("fault() of as(0, 2)", x.fault(), CAST);
    }
}
