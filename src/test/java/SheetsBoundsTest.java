/** The bounds that promises 23 to 27 name, and those that the terms name for sheets. */
public final class SheetsBoundsTest {
    private static final Due due = new Due("SheetsBoundsTest");
    private static final int UNKNOWN = -1, OUTSIDE = -2, NULL = -11, CAST = -12, INDEX = -13, SIZE = -14;
    private static final long LOST = Long.MIN_VALUE;

    public static void main(String[] args) {
        fourSheets();
        lengths();
        newRows();
        lose();
        cutToSorts();
        places();
        cellsAsOfASort();
        copyWhole();
        copyNothing();
        copyOverItself();
        copySorts();
        due.end();
    }

    private static void fourSheets() {
        due.says(0, "SHEETS 0 .. 3 have nothing (at first)");
        PondRings x = new PondRings();
        for (int k = 0; k < 4; k++) {
            due.is(x, "put(" + k + ", 0, 1)", NULL);
            due.is(x, "sheet(" + k + ", 2, 1)", 1);
            due.is(x, "put(" + k + ", 0, " + (k + 1) + ")", 1);
        }
        for (int k = 0; k < 4; k++) {
            due.is(x, "cell(" + k + ", 0, 2)", k + 1);
        }
        for (String k : new String[] {"-1", "4", "MIN", "MAX"}) {
            due.is(x, "sheet(" + k + ", 0, 1)", UNKNOWN);
            due.is(x, "lose(" + k + ")", UNKNOWN);
            due.is(x, "put(" + k + ", 0, 0)", UNKNOWN);
            due.is(x, "cell(" + k + ", 0, 0)", LOST);
            due.is(x, "copy(" + k + ", 0, 0, 0, 0)", UNKNOWN);
            due.is(x, "copy(0, 0, " + k + ", 0, 0)", UNKNOWN);
            due.is(x, "pond(" + k + ", 0, 0, 0)", UNKNOWN);
        }
    }

    private static void lengths() {
        due.says(0, "a row of 0 .. 60 numbers (0 at first) of a SORT");
        for (int sort = 0; sort < 3; sort++) {
            for (int n = 0; n <= 60; n++) {
                PondRings x = new PondRings();
                due.is(x, "sheet(0, " + sort + ", " + n + ")", 1);
                for (int i = 0; i < n; i++) {
                    due.is("cell " + i + " of " + n, x.cell(0, i, sort), 0);
                }
                due.is("cell " + n + " of " + n, x.cell(0, n, sort), LOST);
                due.is(x, "fault()", 3);
                due.is(x, "put(0, " + n + ", 1)", INDEX);
                due.is(x, "put(0, " + (n - 1) + ", 1)", n == 0 ? INDEX : 1);
            }
        }
        due.says(23, "OUTSIDE: sort, n above 60; SIZE.");
        PondRings x = new PondRings();
        due.is(x, "sheet(0, 0, 61)", OUTSIDE);
        due.is(x, "fault()", 0);
        due.is(x, "sheet(0, 0, MAX)", OUTSIDE);
        due.is(x, "sheet(0, 0, -1)", SIZE);
        due.is(x, "fault()", 4);
        due.is(x, "sheet(0, 0, MIN)", SIZE);
        due.is(x, "sheet(0, -1, 0)", OUTSIDE);
        due.is(x, "sheet(0, 3, 0)", OUTSIDE);
        due.is(x, "lose(0)", 0);
    }

    private static void newRows() {
        due.says(23, "A SHEET gets a new row: 1.");
        for (int sort = 0; sort < 3; sort++) {
            for (int other = 0; other < 3; other++) {
                PondRings x = new PondRings();
                x.sheet(0, sort, 60);
                x.sheet(1, sort, 60);
                for (int i = 0; i < 60; i++) {
                    x.put(0, i, i + 1);
                }
                x.put(1, 59, 9);
                due.is(x, "sheet(0, " + other + ", 3)", 1);
                due.is(x, "put(0, 3, 0)", INDEX);
                due.is(x, "cell(0, 2, " + other + ")", 0);
                due.is(x, "sheet(0, " + other + ", 60)", 1);
                for (int i = 0; i < 60; i++) {
                    due.is("a new row's cell " + i, x.cell(0, i, other), 0);
                }
                due.is("the other sheet's cell stays", x.cell(1, 59, sort), 9);
                due.is("taken as of the row ahead", x.cell(0, 0, sort), other == sort ? 0 : LOST);
            }
        }
    }

    private static void lose() {
        due.says(24, "A SHEET has nothing: 1; 0: it had nothing.");
        for (int k = 0; k < 4; k++) {
            PondRings x = new PondRings();
            due.is(x, "lose(" + k + ")", 0);
            due.is(x, "sheet(" + k + ", 1, 60)", 1);
            due.is(x, "put(" + k + ", 0, 7)", 1);
            due.is(x, "lose(" + k + ")", 1);
            due.is(x, "lose(" + k + ")", 0);
            due.is(x, "put(" + k + ", 0, 7)", NULL);
            due.is("cell", x.cell(k, 0, 1), LOST);
            due.is(x, "fault()", 1);
            due.is(x, "sheet(" + k + ", 0, 0)", 1);
            due.is("a row of no numbers is no nothing", x.lose(k), 1);
            due.is(x, "sheet(" + k + ", 1, 60)", 1);
            due.is("what was lost does not come back", x.cell(k, 0, 1), 0);
        }
    }

    private static void cutToSorts() {
        due.says(0, "0 bytes, 1 shorts, 2 ints; what comes to a cell of it is cut to its SORT");
        int[] put = {127, 128, 255, 256, -128, -129, -256, 32767, 32768, 65535, 65536, -32768, -32769, -65536,
            Integer.MAX_VALUE, Integer.MIN_VALUE, -1};
        long[][] want = {
            {127, -128, -1, 0, -128, 127, 0, -1, 0, -1, 0, 0, -1, 0, -1, 0, -1},
            {127, 128, 255, 256, -128, -129, -256, 32767, -32768, -1, 0, -32768, 32767, 0, -1, 0, -1},
            {127, 128, 255, 256, -128, -129, -256, 32767, 32768, 65535, 65536, -32768, -32769, -65536,
                2147483647, -2147483648, -1}};
        for (int sort = 0; sort < 3; sort++) {
            PondRings x = new PondRings();
            x.sheet(0, sort, 60);
            for (int i = 0; i < put.length; i++) {
                due.is("put(0, 59, " + put[i] + ")", x.put(0, 59, put[i]), 1);
                due.is(put[i] + " in a row of sort " + sort, x.cell(0, 59, sort), want[sort][i]);
            }
        }
    }

    private static void places() {
        due.says(25, "Cell i of a SHEET becomes v: 1.");
        for (int sort = 0; sort < 3; sort++) {
            PondRings x = new PondRings();
            x.sheet(0, sort, 3);
            due.is(x, "put(0, 0, 5)", 1);
            due.is(x, "put(0, 2, 7)", 1);
            for (String i : new String[] {"-1", "3", "59", "60", "MIN", "MAX"}) {
                due.is(x, "put(0, " + i + ", 9)", INDEX);
                due.is(x, "fault()", 3);
                due.is(x, "cell(0, " + i + ", " + sort + ")", LOST);
                due.is(x, "fault()", 3);
            }
            due.is("cell 0", x.cell(0, 0, sort), 5);
            due.is(x, "fault()", 0);
            due.is("cell 1", x.cell(0, 1, sort), 0);
            due.is("cell 2", x.cell(0, 2, sort), 7);
        }
    }

    private static void cellsAsOfASort() {
        due.says(26, "Cell i of what a SHEET has, taken as a row of a SORT.");
        for (int sort = 0; sort < 3; sort++) {
            PondRings x = new PondRings();
            x.sheet(0, sort, 1);
            x.put(0, 0, -3);
            for (int as = -1; as <= 3; as++) {
                due.is("a row of " + sort + " as one of " + as, x.cell(0, 0, as), as == sort ? -3 : LOST);
                due.is("fault() of a row of " + sort + " as one of " + as, x.fault(),
                    as == sort || as < 0 || as > 2 ? 0 : 2);
                due.is("nothing as a row of " + as, x.cell(1, 0, as), LOST);
                due.is("fault() of nothing as a row of " + as, x.fault(), as < 0 || as > 2 ? 0 : 1);
            }
        }
    }

    private static PondRings counted(int sort, int n) {
        PondRings x = new PondRings();
        x.sheet(0, sort, n);
        x.sheet(1, sort, n);
        for (int i = 0; i < n; i++) {
            x.put(0, i, i + 1);
        }
        return x;
    }

    private static void copyWhole() {
        due.says(27, "n cells of a SHEET from i on go to another one (perhaps the same) from j on, as they were: n.");
        PondRings x = counted(0, 60);
        due.is(x, "copy(0, 0, 1, 0, 61)", INDEX);
        due.is(x, "copy(0, 0, 1, 0, 60)", 60);
        for (int i = 0; i < 60; i++) {
            due.is("cell " + i, x.cell(1, i, 0), i + 1);
        }
        due.is(x, "copy(0, 0, 1, 59, 1)", 1);
        due.is(x, "cell(1, 59, 0)", 1);
        due.is(x, "copy(0, 59, 1, 0, 1)", 1);
        due.is(x, "cell(1, 0, 0)", 60);
        due.is(x, "cell(1, 1, 0)", 2);
        due.is(x, "copy(0, 1, 1, 0, 60)", INDEX);
        due.is(x, "copy(0, 0, 1, 1, 60)", INDEX);
        due.is(x, "copy(0, 0, 1, 0, -1)", INDEX);
        due.is(x, "fault()", 3);
    }

    private static void copyNothing() {
        due.says(0, "INDEX (of cells from i on also where i is not 0 .. how many there are, if none of them is "
            + "taken, too)");
        PondRings x = counted(1, 4);
        x.sheet(2, 1, 0);
        for (int i = -2; i <= 6; i++) {
            for (int j = -2; j <= 6; j++) {
                boolean there = i >= 0 && i <= 4 && j >= 0 && j <= 4;
                due.is(x, "copy(0, " + i + ", 1, " + j + ", 0)", there ? 0 : INDEX);
            }
        }
        due.is(x, "copy(2, 0, 0, 4, 0)", 0);
        due.is(x, "copy(2, 1, 0, 0, 0)", INDEX);
        due.is(x, "copy(0, 4, 2, 0, 0)", 0);
        due.is(x, "copy(0, 0, 2, 1, 0)", INDEX);
        due.is(x, "copy(0, 0, 2, 0, 1)", INDEX);
        for (int i = 0; i < 4; i++) {
            due.is("nothing went to cell " + i, x.cell(1, i, 1), 0);
        }
    }

    private static void copyOverItself() {
        due.says(27, "(perhaps the same) from j on, as they were");
        for (int i = 0; i <= 6; i++) {
            for (int j = 0; j <= 6; j++) {
                for (int n = 0; n <= 7; n++) {
                    PondRings x = counted(2, 6);
                    boolean there = i + n <= 6 && j + n <= 6;
                    due.is(x, "copy(0, " + i + ", 0, " + j + ", " + n + ")", there ? n : INDEX);
                    for (int c = 0; c < 6; c++) {
                        boolean came = there && c >= j && c < j + n;
                        due.is("cell " + c + " after " + i + ", " + j + ", " + n, x.cell(0, c, 2),
                            came ? c - j + i + 1 : c + 1);
                    }
                }
            }
        }
    }

    private static void copySorts() {
        due.says(27, "CAST (unlike SORTS)");
        for (int from = 0; from < 3; from++) {
            for (int to = 0; to < 3; to++) {
                PondRings x = new PondRings();
                x.sheet(0, from, 2);
                x.sheet(1, to, 2);
                x.put(0, 1, Integer.MIN_VALUE + 100_100);
                long was = x.cell(0, 1, from);
                due.is("from sort " + from + " to " + to, x.copy(0, 1, 1, 0, 1), from == to ? 1 : CAST);
                due.is(x, "fault()", from == to ? 0 : 2);
                due.is("what came", x.cell(1, 0, to), from == to ? was : 0);
                due.is("none of them, from sort " + from + " to " + to, x.copy(0, 0, 1, 0, 0), from == to ? 0 : CAST);
            }
        }
    }
}
