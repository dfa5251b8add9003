/** Promises 5 to 10: stone, ofStone, back, ring, meet, first. */
public final class StonesTest {
    private static final Due due = new Due("StonesTest");

    public static void main(String[] args) {
        stone();
        ofStone();
        back();
        ring();
        meet();
        meetInPassing();
        meetOfShortRings();
        first();
        due.end();
    }

    private static void stone() {
        PondRings x = Ponds.with("p13;.#.");
        due.is("stone(9, 3, -1)", x.stone(9, 3, -1), PondRings.UNKNOWN);
        due.is("stone(0, -1, 0)", x.stone(0, -1, 0), PondRings.UNKNOWN);
        due.is("stone(3, 1, 0)", x.stone(3, 1, 0), PondRings.OUTSIDE);
        due.is("stone(-1, 0, 0)", x.stone(-1, 0, 0), PondRings.OUTSIDE);
        due.is("stone(0, 1, 100)", x.stone(0, 1, 100), PondRings.OUTSIDE);
        due.is("stone(0, 0, -1)", x.stone(0, 0, -1), PondRings.OUTSIDE);
        due.is("stone(0, 1, 0)", x.stone(0, 1, 0), PondRings.STATE);
        due.is("many(2)", x.many(2), 0);
        for (int s = 0; s < 8; s++) {
            due.is("stone " + s, x.stone(s % 3, s % 2 * 2, 99 - s), s);
        }
        due.is("stone, land, when full", x.stone(0, 1, 0), PondRings.STATE);
        due.is("stone, when full", x.stone(0, 0, 0), PondRings.FULL);
        due.is("many(2)", x.many(2), 8);
    }

    private static void ofStone() {
        PondRings x = Ponds.with("p17;.....#.");
        x.stone(0, 0, 99);
        x.stone(1, 0, 7);
        x.stone(2, 4, 7);
        x.stone(0, 6, 7);
        x.stone(1, 2, 0);
        int[][] want = {{0, 0, 99, 104}, {1, 0, 7, 11}, {2, 4, 7, 9}, {0, 6, 7, 8}, {1, 2, 0, 3}};
        for (int s = 0; s < want.length; s++) {
            for (int what = 0; what < 4; what++) {
                due.is("ofStone(" + s + ", " + what + ")", x.ofStone(s, what), want[s][what]);
            }
        }
        due.is("ofStone(5, 9)", x.ofStone(5, 9), PondRings.UNKNOWN);
        due.is("ofStone(-1, 0)", x.ofStone(-1, 0), PondRings.UNKNOWN);
        due.is("ofStone(0, 4)", x.ofStone(0, 4), PondRings.OUTSIDE);
        due.is("ofStone(0, -1)", x.ofStone(0, -1), PondRings.OUTSIDE);
    }

    private static void back() {
        PondRings x = Ponds.with("p12;..");
        x.stone(0, 0, 0);
        x.stone(0, 1, 0);
        x.stone(0, 1, 5);
        due.is("back(4)", x.back(4), PondRings.OUTSIDE);
        due.is("back(-1)", x.back(-1), PondRings.OUTSIDE);
        due.is("back(MIN)", x.back(Integer.MIN_VALUE), PondRings.OUTSIDE);
        due.is("back(0)", x.back(0), 3);
        due.is("back(2)", x.back(2), 1);
        due.is("ofStone(1, 0)", x.ofStone(1, 0), PondRings.UNKNOWN);
        due.is("stone(1, 1, 1)", x.stone(1, 1, 1), 1);
        due.is("ofStone(1, 2)", x.ofStone(1, 2), 1);
        due.is("back(2)", x.back(2), 0);
        due.is("back(1)", x.back(1), PondRings.OUTSIDE);
    }

    private static void ring() {
        PondRings x = Ponds.with("p33;...;.#.;...");
        x.stone(0, 0, 5);
        x.stone(1, 0, 0);
        x.stone(2, 4, 0);
        x.stone(2, 8, 98);
        long[] way = {0b1, 0b1010, 0b1000100, 0b10100000, 0b100000000, 0};
        for (int age = 0; age < way.length; age++) {
            due.is("ring(0, " + (age + 5) + ")", x.ring(0, age + 5), way[age]);
            due.is("ring(1, " + age + ")", x.ring(1, age), age > 3 ? 0 : way[age]);
        }
        due.is("ring(0, 4)", x.ring(0, 4), 0);
        due.is("ring(2, 97)", x.ring(2, 97), 0);
        due.is("ring(2, 98)", x.ring(2, 98), 1 << 8);
        due.is("ring(2, 99)", x.ring(2, 99), 1 << 7 | 1 << 5);
        due.is("ring(2, 100)", x.ring(2, 100), 0);
        due.is("ring(2, 999)", x.ring(2, 999), 0);
        due.is("ring(2, 1000)", x.ring(2, 1000), PondRings.LOST);
        due.is("ring(2, -1)", x.ring(2, -1), PondRings.LOST);
        due.is("ring(3, 0)", x.ring(3, 0), PondRings.LOST);
        due.is("ring(-1, 0)", x.ring(-1, 0), PondRings.LOST);
        PondRings y = Ponds.with(Ponds.OPEN);
        y.stone(0, 0, 0);
        due.is("the farthest cell's bit", y.ring(0, 11), 1L << 41);
    }

    private static void meet() {
        PondRings x = Ponds.with("p33;...;.#.;...");
        x.stone(0, 0, 10);
        x.stone(0, 8, 10);
        x.stone(0, 2, 12);
        x.stone(0, 0, 10);
        x.stone(0, 0, 11);
        both(x, 0, 1, 12, 2);
        both(x, 0, 2, 12, 2);
        both(x, 0, 3, 10, 0);
        both(x, 0, 4, PondRings.NONE, PondRings.NONE);
        due.is("meet(0, 0, 9)", x.meet(0, 0, 9), PondRings.UNKNOWN);
        due.is("meet(0, 5, 0)", x.meet(0, 5, 0), PondRings.UNKNOWN);
        due.is("meet(-1, 0, 0)", x.meet(-1, 0, 0), PondRings.UNKNOWN);
        due.is("meet(0, 1, 2)", x.meet(0, 1, 2), PondRings.OUTSIDE);
        due.is("meet(0, 1, -1)", x.meet(0, 1, -1), PondRings.OUTSIDE);
        PondRings y = Ponds.with("p13;.#.");
        y.stone(0, 0, 0);
        y.stone(0, 2, 0);
        both(y, 0, 1, PondRings.NONE, PondRings.NONE);
    }

    private static void both(PondRings x, int s, int other, int minute, int place) {
        for (int turned = 0; turned < 2; turned++) {
            int a = turned == 0 ? s : other;
            int b = turned == 0 ? other : s;
            due.is("meet(" + a + ", " + b + ", 0)", x.meet(a, b, 0), minute);
            due.is("meet(" + a + ", " + b + ", 1)", x.meet(a, b, 1), place);
        }
    }

    private static void meetInPassing() {
        PondRings row = Ponds.with("p14;....");
        row.stone(0, 3, 0);
        row.stone(0, 0, 0);
        both(row, 0, 1, 1, 1);
        row.stone(0, 1, 2);
        both(row, 0, 2, 2, 1);
        PondRings column = Ponds.with("p41;.;.;.;.");
        column.stone(0, 0, 99);
        column.stone(0, 3, 99);
        both(column, 0, 1, 100, 1);
        PondRings round = Ponds.with("p33;...;.#.;...");
        round.stone(0, 7, 0);
        round.stone(0, 2, 0);
        both(round, 0, 1, 1, 3 + 2);
        PondRings rows = Ponds.with("p23;#..;..#");
        rows.stone(0, 2, 0);
        rows.stone(0, 3, 0);
        both(rows, 0, 1, 1, 1);
        PondRings ends = Ponds.with("p24;...#;#...");
        ends.stone(0, 3 + 4, 0);
        ends.stone(0, 0, 0);
        both(ends, 0, 1, 2, 2);
    }

    private static void meetOfShortRings() {
        PondRings x = Ponds.with("p17;.......");
        x.stone(2, 0, 0);
        x.stone(0, 3, 0);
        x.stone(2, 2, 0);
        x.stone(1, 6, 0);
        both(x, 0, 1, PondRings.NONE, PondRings.NONE);
        both(x, 0, 2, 1, 1);
        both(x, 0, 3, PondRings.NONE, PondRings.NONE);
        both(x, 1, 3, 1, 4);
        PondRings y = Ponds.with("p17;.......");
        y.stone(1, 0, 0);
        y.stone(1, 6, 0);
        both(y, 0, 1, 3, 3);
        y.stone(1, 5, 1);
        both(y, 0, 2, 3, 3);
        y.stone(1, 5, 2);
        both(y, 0, 3, PondRings.NONE, PondRings.NONE);
        y.stone(2, 4, 3);
        both(y, 0, 4, PondRings.NONE, PondRings.NONE);
        both(y, 1, 4, PondRings.NONE, PondRings.NONE);
        y.stone(2, 4, 2);
        both(y, 0, 5, 3, 3);
    }

    private static void first() {
        PondRings x = Ponds.with("p27;.......;#######");
        three(x, PondRings.NONE, PondRings.NONE, PondRings.NONE);
        x.stone(2, 0, 50);
        three(x, PondRings.NONE, PondRings.NONE, PondRings.NONE);
        x.stone(2, 2, 50);
        three(x, 0, 1, 51);
        x.stone(2, 1, 50);
        three(x, 0, 2, 50);
        x.stone(2, 6, 20);
        x.stone(2, 5, 20);
        three(x, 3, 4, 20);
        x.stone(2, 4, 20);
        three(x, 3, 4, 20);
        x.stone(2, 4, 20);
        three(x, 3, 4, 20);
        due.is("back(3)", x.back(3), 4);
        x.stone(0, 6, 49);
        three(x, 0, 2, 50);
        due.is("first(3)", x.first(3), PondRings.OUTSIDE);
        due.is("first(-1)", x.first(-1), PondRings.OUTSIDE);
    }

    private static void three(PondRings x, int lesser, int other, int minute) {
        due.is("first(0)", x.first(0), lesser);
        due.is("first(1)", x.first(1), other);
        due.is("first(2)", x.first(2), minute);
    }
}
