/** The bounds that promises 1 to 4 and 33 name, and those that the terms name for a pond's text. */
public final class PondBoundsTest {
    private static final Due due = new Due("PondBoundsTest");
    private static final int UNKNOWN = -1, NONE = -9;

    public static void main(String[] args) {
        newObject();
        sizes();
        codesAtEachPlace();
        textsCutShort();
        textsThatGoOn();
        textsInRows();
        widerCodes();
        anew();
        anewInEveryWay();
        noWayOfThePondAhead();
        notTakenLeavesAll();
        water();
        far();
        many();
        due.end();
    }

    private static void newObject() {
        due.says(1, "No POND (no CELLS), SHEETS have nothing.");
        PondRings x = new PondRings();
        due.says(32, "(0 ahead of any)");
        due.is(x, "fault()", 0);
        due.says(1, "No POND (no CELLS)");
        for (int what = 0; what <= 4; what++) {
            due.is(x, "many(" + what + ")", 0);
        }
        for (String told : new String[] {"water(0)", "far(0, 0)", "stone(0, 0, 0)", "wish(0, 0)", "reed(0, 0)",
            "ofStone(0, 0)", "ofWish(0, 0)", "meet(0, 1, 0)", "apart(0, 1)", "soonest(0)", "alone(0)", "tell(0)",
            "make(0)", "as(0, 0)"}) {
            due.is(x, told, UNKNOWN);
        }
        for (String told : new String[] {"first(0)", "first(1)", "first(2)", "soonest(-1)", "alone(-1)", "dig(0)",
            "fits(0, 0)", "fits(2, 0)"}) {
            due.is(x, told, NONE);
        }
        for (String told : new String[] {"back(0)", "drop(0)", "pull(0)", "atOnce()", "sunset(0)", "sunset(20)",
            "dig(1)", "fits(0, -1)", "fits(1, -1)", "fits(2, -1)", "trace()"}) {
            due.is(x, told, 0);
        }
        due.is(x, "ring(0, 0)", PondRings.LOST);
        due.says(1, "SHEETS have nothing");
        for (int k = 0; k < 4; k++) {
            due.is(x, "put(" + k + ", 0, 1)", -11);
            due.is(x, "pond(" + k + ", 0, 0, 0)", -11);
            due.is(x, "copy(" + k + ", 0, " + k + ", 0, 0)", -11);
            due.is(x, "cell(" + k + ", 0, 0)", PondRings.LOST);
            due.is(x, "fault()", 1);
            due.is(x, "lose(" + k + ")", 0);
        }
    }

    private static String text(int high, int wide, char sign) {
        StringBuilder text = new StringBuilder("p").append(high).append(wide);
        for (int row = 0; row < high; row++) {
            text.append(';').append(String.valueOf(sign).repeat(wide));
        }
        return text.toString();
    }

    private static void sizes() {
        due.says(0, "p, a digit 1 .. 6 (HIGH), a digit 1 .. 7 (WIDE)");
        for (int high = 1; high <= 6; high++) {
            for (int wide = 1; wide <= 7; wide++) {
                PondRings x = new PondRings();
                due.is(text(high, wide, '.'), Ponds.read(x, text(high, wide, '.')), high * wide);
                due.is("cells", x.many(0), high * wide);
                due.is("WIDE", x.many(1), wide);
                due.is("from the first to the last", x.far(0, high * wide - 1), high + wide - 2);
                due.is("the last cell", x.water(high * wide - 1), 1);
                due.is("none after it", x.water(high * wide), UNKNOWN);
                due.is(text(high, wide, '#'), Ponds.read(x, text(high, wide, '#')), high * wide);
                due.is("the last cell is land", x.water(high * wide - 1), 0);
            }
        }
        for (char digit : new char[] {'/', '0', '7', '8', '9', ':'}) {
            due.is("HIGH " + digit, Ponds.read(new PondRings(), "p" + digit + "1;."), -101);
        }
        for (char digit : new char[] {'/', '0', '8', '9', ':'}) {
            due.is("WIDE " + digit, Ponds.read(new PondRings(), "p1" + digit + ";."), -102);
        }
    }

    /** Every code a byte can be, at each place of p12;.# and behind it. */
    private static void codesAtEachPlace() {
        due.says(0, "FIRST FAULT: the place (from 0 on) of the first code with which no TEXT goes on");
        String text = "p12;.#";
        for (int place = 0; place <= text.length(); place++) {
            PondRings x = null;
            for (int code = -128; code <= 127; code++) {
                if (code % 50 == 0 || x == null) {
                    x = new PondRings();
                    Ponds.write(x, 0, 0, 0, text + "?");
                }
                x.put(0, place, code);
                int n = Math.max(text.length(), place + 1);
                due.is("code " + code + " at " + place, x.pond(0, 0, 0, n), withCode(place, code));
            }
        }
    }

    private static int withCode(int place, int code) {
        switch (place) {
            case 0:
                return code == 112 ? 2 : -100;
            case 1:
                // A pond of more rows ends too soon.
                return code == '1' ? 2 : code > '1' && code <= '6' ? -106 : -101;
            case 2:
                // A row of one sign goes on with no second one; longer ones end too soon.
                return code == '2' ? 2 : code == '1' ? -105 : code > '2' && code <= '7' ? -106 : -102;
            case 3:
                return code == 59 ? 2 : -103;
            case 4:
            case 5:
                return code == 46 || code == 35 ? 2 : -100 - place;
            default:
                return -106;
        }
    }

    private static void textsCutShort() {
        due.says(0, "how many codes there are, if it just ends too soon");
        for (String text : new String[] {"p11;.", "p61;.;.;.;.;.;.", "p17;.......", Ponds.OPEN, Ponds.SNAKE}) {
            PondRings x = new PondRings();
            Ponds.write(x, 0, 0, 0, text);
            for (int n = 0; n < text.length(); n++) {
                due.is("pond of " + n + " codes of " + text, x.pond(0, 0, 0, n), -100 - n);
                due.is("many(0)", x.many(0), 0);
                due.is("fault()", x.fault(), 0);
            }
            int cells = text.replaceAll("[^.#]", "").length();
            due.is("pond of all codes of " + text, x.pond(0, 0, 0, text.length()), cells);
        }
    }

    private static void textsThatGoOn() {
        due.says(0, "the first code with which no TEXT goes on");
        for (String more : new String[] {";", ".", "#", "p", ";.......", "\0"}) {
            due.is("a whole text and more", Ponds.read(new PondRings(), Ponds.OPEN + more), -151);
            due.is("a whole text and more", Ponds.read(new PondRings(), "p11;#" + more), -105);
        }
        due.is("of two the first", Ponds.read(new PondRings(), "p12;xx"), -104);
        due.is("a fault ahead of an end too soon", Ponds.read(new PondRings(), "p67;x"), -104);
    }

    private static void textsInRows() {
        due.says(2, "A POND by a TEXT of n cells of a SHEET from i on");
        PondRings x = new PondRings();
        Ponds.write(x, 2, 1, 9, Ponds.OPEN);
        due.is(x, "pond(2, 1, 9, 51)", 42);
        due.is(x, "pond(2, 1, 9, 52)", -13);
        due.is(x, "pond(2, 1, 10, 51)", -13);
        due.is(x, "pond(2, 1, 9, 50)", -150);
        due.is(x, "pond(2, 1, 8, 52)", -100);
        due.is(x, "pond(2, 1, 60, 0)", -100);
        due.is(x, "pond(2, 1, 61, 0)", -13);
        due.is(x, "many(0)", 42);
        PondRings empty = new PondRings();
        empty.sheet(0, 0, 0);
        due.is(empty, "pond(0, 0, 0, 0)", -100);
        due.is(empty, "fault()", 0);
        due.is(empty, "pond(0, 0, 0, 1)", -13);
        due.is(empty, "pond(0, 0, 1, 0)", -13);
        for (int k = 0; k < 4; k++) {
            PondRings y = new PondRings();
            Ponds.write(y, k, k % 3, 0, "p11;.");
            due.is(y, "pond(" + k + ", " + k % 3 + ", 0, 5)", 1);
        }
    }

    private static void widerCodes() {
        due.says(0, "what comes to a cell of it is cut to its SORT");
        int[] more = {0, 256, -256, 65536, -65536, 1 << 24, Integer.MIN_VALUE};
        for (int sort = 0; sort < 3; sort++) {
            for (int add : more) {
                for (int place = 0; place < 5; place++) {
                    PondRings x = new PondRings();
                    Ponds.write(x, 0, sort, 0, "p11;.");
                    x.put(0, place, "p11;.".charAt(place) + add);
                    boolean cut = add == 0 || sort == 0 || sort == 1 && (short) add == 0;
                    due.is("sort " + sort + " and " + add + " at " + place, x.pond(0, sort, 0, 5),
                        cut ? 1 : -100 - place);
                }
            }
        }
    }

    private static void anew() {
        due.says(0, "A TEXT that is taken makes all anew: no STONES, no WISHES, no REEDS.");
        PondRings x = Scene.FULL.made();
        due.is(x, "many(2)", 8);
        due.is(x, "many(3)", 6);
        due.is(x, "many(4)", 6);
        due.is(x, "pond(0, 0, 0, 7)", 3);
        due.is(x, "many(2)", 0);
        due.is(x, "many(3)", 0);
        due.is(x, "many(4)", 0);
        due.is(x, "ofStone(0, 0)", UNKNOWN);
        due.is(x, "ofWish(0, 0)", UNKNOWN);
        due.is(x, "soonest(-1)", NONE);
        due.is(x, "alone(-1)", NONE);
        due.is(x, "first(2)", NONE);
        due.is(x, "atOnce()", 0);
        due.is(x, "sunset(20)", 0);
        due.is(x, "fits(0, -1)", 200);
        for (int k = 0; k < 8; k++) {
            due.is(x, "stone(0, 0, 0)", k);
        }
        due.is(x, "stone(0, 0, 0)", PondRings.FULL);
        for (int k = 0; k < 6; k++) {
            due.is(x, "wish(0, 0)", k);
            due.is(x, "reed(0, 0)", k);
        }
        due.is(x, "wish(0, 0)", PondRings.FULL);
        due.is(x, "reed(0, 0)", PondRings.FULL);
    }

    /** Of the pond ahead nothing is left: not its size, its land, its ways. */
    private static void anewInEveryWay() {
        due.says(0, "A TEXT that is taken makes all anew");
        String[] texts = {Ponds.LONGEST, "p22;..;..", "p61;.;.;.;.;.;.", "p17;.......", "p32;..;#.;..", "p23;...;...",
            "p11;#", "p12;.."};
        int[][] ends = {{0, 41, 21}, {0, 3, 2}, {0, 5, 5}, {0, 6, 6}, {0, 4, 4}, {0, 5, 3}, {0, 0, NONE}, {0, 1, 1}};
        PondRings x = new PondRings();
        for (int i = 0; i < texts.length; i++) {
            for (int other = 0; other < texts.length; other++) {
                if (other % 4 == 0) {
                    x = Ponds.with(texts[i]);
                }
                Ponds.read(x, texts[i]);
                due.is(texts[i] + " way", x.far(ends[i][0], ends[i][1]), ends[i][2]);
                Ponds.read(x, texts[other]);
                String told = texts[other] + " after " + texts[i];
                due.is(told + " way", x.far(ends[other][0], ends[other][1]), ends[other][2]);
                due.is(told + " way back", x.far(ends[other][1], ends[other][0]), ends[other][2]);
                due.is(told + " end", x.water(x.many(0)), UNKNOWN);
                x.stone(0, 0, 0);
                due.is(told + " over", x.ofStone(0, 3), new int[] {27, 3, 6, 7, 5, 4, UNKNOWN, 2}[other]);
            }
        }
    }

    /** A way that the pond ahead had, just longer than the longest one now. */
    private static void noWayOfThePondAhead() {
        due.says(0, "NONE: there is no such way");
        PondRings x = Ponds.with("p33;...;...;...");
        due.is(x, "far(0, 2)", 2);
        due.is("less water", Ponds.read(x, "p33;.#.;.##;###"), 9);
        due.is(x, "far(0, 2)", NONE);
        due.is(x, "far(0, 3)", 1);
        due.is(x, "stone(0, 0, 0)", 0);
        due.is(x, "ofStone(0, 3)", 2);
        due.is(x, "ring(0, 2)", 0);
    }

    private static void notTakenLeavesAll() {
        due.says(0, "FAULTS are the machine's");
        PondRings x = Scene.SOME.made();
        due.is(x, "pond(0, 0, 0, 10)", -110);
        due.is(x, "fault()", 0);
        due.is(x, "many(0)", 6);
        due.is(x, "many(1)", 3);
        due.is(x, "water(2)", 0);
        due.is(x, "far(1, 5)", 2);
        due.is(x, "pond(0, 0, 0, 11)", 6);
        due.is(x, "many(2)", 0);
    }

    private static void water() {
        due.says(0, "CELLS, numbered from 0 on by rows from above, in a row from the left");
        for (int c = 0; c < 42; c++) {
            StringBuilder text = new StringBuilder(text(6, 7, '#'));
            text.setCharAt(4 + c + c / 7, '.');
            PondRings x = Ponds.with(text.toString());
            for (int other = 0; other < 42; other++) {
                due.is("water(" + other + "), only " + c, x.water(other), other == c ? 1 : 0);
            }
            due.is("far(" + c + ", " + c + ")", x.far(c, c), 0);
            due.is("water(42)", x.water(42), UNKNOWN);
            due.is("water(-1)", x.water(-1), UNKNOWN);
        }
    }

    private static void far() {
        due.says(0, "FAR(a, b): the fewest steps from a CELL of WATER to another one");
        PondRings snake = Ponds.with(Ponds.LONGEST);
        due.is(snake, "far(0, 6)", 26);
        due.is(snake, "far(6, 0)", 26);
        due.is(snake, "far(0, 41)", 21);
        due.is(snake, "far(0, 2)", 12);
        due.is(snake, "far(0, 7)", 1);
        due.is(snake, "far(41, 41)", 0);
        due.says(0, "each to one beside it (in a row, one below the other) that is WATER, too");
        PondRings slanted = Ponds.with("p22;.#;#.");
        due.is(slanted, "far(0, 3)", NONE);
        for (int wide = 1; wide <= 7; wide++) {
            // Only the end of the first row and the beginning of the second are water.
            String text = "p2" + wide + ";" + "#".repeat(wide - 1) + ".;." + "#".repeat(wide - 1);
            PondRings x = Ponds.with(text);
            due.is(text, x.far(wide - 1, wide), wide == 1 ? 1 : NONE);
            due.is(text, x.far(wide, wide - 1), wide == 1 ? 1 : NONE);
        }
        due.says(0, "NONE: there is no such way, one is LAND");
        PondRings x = Ponds.with("p14;.##.");
        due.is(x, "far(0, 3)", NONE);
        due.is(x, "far(0, 1)", NONE);
        due.is(x, "far(1, 0)", NONE);
        due.is(x, "far(1, 1)", NONE);
        due.is(x, "far(1, 2)", NONE);
        due.is(x, "far(0, 0)", 0);
        due.is(x, "far(3, 4)", UNKNOWN);
        due.is(x, "far(4, 1)", UNKNOWN);
    }

    private static void many() {
        due.says(33, "How many: 0 CELLS, 1 WIDE, 2 STONES, 3 WISHES, 4 REEDS.");
        int[][] want = {{0, 0, 0, 0, 0}, {6, 3, 3, 3, 2}, {3, 3, 8, 6, 6}};
        for (Scene scene : Scene.values()) {
            PondRings x = scene.made();
            for (int what = 0; what <= 4; what++) {
                due.is(x, "many(" + what + ")", want[scene.ordinal()][what]);
            }
            due.is(x, "many(5)", PondRings.OUTSIDE);
            due.is(x, "many(-1)", PondRings.OUTSIDE);
        }
    }
}
