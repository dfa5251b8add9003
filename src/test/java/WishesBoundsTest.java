/** The bounds that promises 11 to 18 name, and those that the terms name for wishes and their plans. */
public final class WishesBoundsTest {
    private static final Due due = new Due("WishesBoundsTest");
    private static final int UNKNOWN = -1, OUTSIDE = -2, FULL = -4, NONE = -9;
    private static final int[] CELLS_APART = {0, 2, 4, 6, 14, 16};

    public static void main(String[] args) {
        sixAtMost();
        kinds();
        drop();
        apartInLine();
        stonesDoNotCount();
        atOnceOfSix();
        atOnceOfSeveral();
        soonestOfNoneAndOne();
        soonestOfSix();
        soonestOfSeveral();
        soonestAfterChanges();
        twoInLine();
        threeInLine();
        alone();
        aloneBeyondTheMinutes();
        sunsetMinutes();
        sunsetInLine();
        sunsetOfSeveral();
        due.end();
    }

    private static PondRings wishes(String text, int kind, int... cells) {
        PondRings x = Ponds.with(text);
        for (int c : cells) {
            x.wish(kind, c);
        }
        return x;
    }

    private static void sixAtMost() {
        due.says(0, "WISHES, 6 at most, numbered by how many there are");
        PondRings x = Ponds.with("p13;.#.");
        for (int w = 0; w < 6; w++) {
            due.is(x, "many(3)", w);
            due.is(x, "ofWish(" + w + ", 0)", UNKNOWN);
            due.is(x, "wish(" + w % 3 + ", " + w % 2 * 2 + ")", w);
            due.is(x, "ofWish(" + w + ", 0)", w % 3);
            due.is(x, "ofWish(" + w + ", 1)", w % 2 * 2);
        }
        due.is(x, "wish(0, 0)", FULL);
        due.is(x, "many(3)", 6);
        due.is(x, "drop(1)", 5);
        due.is(x, "wish(0, 2)", 5);
        due.is(x, "ofWish(5, 0)", 0);
        due.is(x, "wish(0, 0)", FULL);
        due.is(x, "drop(6)", 0);
        due.is(x, "wish(1, 0)", 0);
    }

    private static void kinds() {
        due.says(11, "A WISH: its number.");
        PondRings x = Ponds.with(Ponds.OPEN);
        due.is(x, "wish(0, 0)", 0);
        due.is(x, "wish(2, 41)", 1);
        due.is(x, "wish(3, 41)", OUTSIDE);
        due.is(x, "wish(-1, 0)", OUTSIDE);
        due.is(x, "wish(0, 42)", UNKNOWN);
        due.is(x, "wish(0, -1)", UNKNOWN);
        due.says(12, "Of a WISH: 0 kind, 1 CELL.");
        due.is(x, "ofWish(0, 0)", 0);
        due.is(x, "ofWish(0, 1)", 0);
        due.is(x, "ofWish(1, 0)", 2);
        due.is(x, "ofWish(1, 1)", 41);
        due.is(x, "ofWish(1, 2)", OUTSIDE);
        due.is(x, "ofWish(1, -1)", OUTSIDE);
        due.is(x, "ofWish(2, 0)", UNKNOWN);
    }

    private static void drop() {
        due.says(13, "The last k WISHES (0 .. as many as there are) are taken back: how many are left.");
        for (int k = 0; k <= 6; k++) {
            PondRings x = Scene.FULL.made();
            due.is(x, "drop(" + k + ")", 6 - k);
            due.is(x, "many(3)", 6 - k);
            due.is(x, "ofWish(" + (6 - k) + ", 0)", UNKNOWN);
            if (k < 6) {
                due.is(x, "ofWish(" + (5 - k) + ", 0)", (5 - k) % 3);
            }
            due.is(x, "drop(" + (7 - k) + ")", OUTSIDE);
            due.is(x, "drop(-1)", OUTSIDE);
            due.is(x, "drop(0)", 6 - k);
            due.is(x, "drop(" + (6 - k) + ")", 0);
            due.is(x, "drop(0)", 0);
            due.is(x, "drop(1)", OUTSIDE);
            due.is(x, "many(2)", 8);
            due.is(x, "many(4)", 6);
        }
    }

    /** All kinds and distances that a line of 27 cells has. */
    private static void apartInLine() {
        due.says(0, "APART of two WISHES: the least d, 0 or more, such that the second one, thrown d minutes later, "
            + "does not MEET the first one.");
        for (int kinds = 0; kinds < 9; kinds++) {
            PondRings x = Ponds.with(Ponds.LONGEST);
            for (int steps = 0; steps <= 26; steps++) {
                x.wish(kinds / 3, Ponds.LINE[0]);
                x.wish(kinds % 3, Ponds.LINE[steps]);
                due.is("kinds " + kinds / 3 + " and " + kinds % 3 + ", " + steps + " steps", x.apart(0, 1),
                    leastGap(kinds / 3, kinds % 3, steps));
                x.drop(2);
            }
        }
        PondRings x = wishes(Ponds.LONGEST, 0, 0, 6);
        due.is(x, "apart(0, 1)", 27);
        due.is(x, "apart(1, 0)", 27);
        PondRings same = wishes("p11;.", 2, 0, 0);
        due.is(same, "apart(0, 1)", 1);
        PondRings never = wishes("p13;.#.", 0, 0, 2);
        due.is(never, "apart(0, 1)", 0);
        due.says(14, "UNKNOWN: WISHES (it is one: so, too).");
        due.is(never, "apart(0, 0)", UNKNOWN);
        due.is(never, "apart(0, 2)", UNKNOWN);
        due.is(never, "apart(2, 0)", UNKNOWN);
        due.is(never, "apart(-1, 0)", UNKNOWN);
    }

    private static void stonesDoNotCount() {
        due.says(0, "(STONES that are thrown do not count with them.)");
        PondRings x = wishes(Ponds.LONGEST, 0, 0, 6);
        for (int s = 0; s < 8; s++) {
            x.stone(0, Ponds.LINE[3 * s], s);
        }
        due.is(x, "apart(0, 1)", 27);
        due.is(x, "atOnce()", 1);
        due.is(x, "soonest(-1)", 27);
        due.is(x, "soonest(0)", 0);
        due.is(x, "alone(0)", 0);
        due.is(x, "alone(-1)", 27);
        due.is(x, "sunset(20)", 1);
        due.is(x, "dig(1)", 1);
    }

    private static void atOnceOfSix() {
        due.says(0, "AT ONCE: the most WISHES that, thrown in one minute, do not MEET, two by two: as a set");
        PondRings x = Ponds.with(Ponds.APART);
        due.is(x, "atOnce()", 0);
        for (int w = 0; w < 6; w++) {
            x.wish(w % 3, CELLS_APART[w]);
            due.is(x, "atOnce()", (2 << w) - 1);
        }
        due.says(15, "AT ONCE, as a set.");
        due.is("six in one cell", wishes("p11;.", 0, 0, 0, 0, 0, 0, 0).atOnce(), 1);
        due.is("a middle one that meets all", wishes("p17;.......", 2, 3, 1, 5).atOnce(), 0b110);
        for (int steps = 0; steps <= 26; steps++) {
            for (int kind = 0; kind < 3; kind++) {
                boolean met = Ponds.meetsInLine(kind, kind, steps, 0) != NONE;
                due.is("two of kind " + kind + ", " + steps + " steps",
                    wishes(Ponds.LONGEST, kind, 0, Ponds.LINE[steps]).atOnce(), met ? 1 : 3);
            }
        }
    }

    private static void atOnceOfSeveral() {
        due.says(0, "as a set: of several the least");
        for (int a = 0; a < 6; a++) {
            for (int b = a + 1; b < 6; b++) {
                int[] cells = CELLS_APART.clone();
                cells[b] = cells[a];
                due.is("wishes " + a + " and " + b + " in one cell", wishes(Ponds.APART, 0, cells).atOnce(),
                    63 - (1 << b));
            }
        }
        due.is("three by two", wishes(Ponds.APART, 0, 0, 2, 4, 4, 2, 0).atOnce(), 0b000111);
        due.is("two by three", wishes(Ponds.APART, 0, 0, 0, 0, 2, 2, 2).atOnce(), 0b001001);
    }

    private static void plan(PondRings x, String name, int last, int... minutes) {
        due.is(x, name + "(-1)", last);
        for (int w = 0; w < minutes.length; w++) {
            due.is(x, name + "(" + w + ")", minutes[w]);
        }
        due.is(x, name + "(" + minutes.length + ")", UNKNOWN);
        due.is(x, name + "(-2)", UNKNOWN);
    }

    private static void soonestOfNoneAndOne() {
        due.says(16, "the minute of the last one (w -1; NONE: there are no WISHES), of a WISH.");
        plan(new PondRings(), "soonest", NONE);
        plan(Ponds.with(Ponds.OPEN), "soonest", NONE);
        plan(wishes("p11;.", 0, 0), "soonest", 0, 0);
        PondRings x = wishes("p11;.", 0, 0, 0);
        plan(x, "soonest", 1, 0, 1);
        x.drop(1);
        plan(x, "soonest", 0, 0);
        x.drop(1);
        plan(x, "soonest", NONE);
    }

    private static void soonestOfSix() {
        due.says(0, "so that no two MEET, and the last one is thrown as soon as it can be: in which minute");
        plan(wishes(Ponds.APART, 0, CELLS_APART), "soonest", 0, 0, 0, 0, 0, 0, 0);
        plan(wishes("p11;.", 1, 0, 0, 0, 0, 0, 0), "soonest", 5, 0, 1, 2, 3, 4, 5);
        plan(wishes(Ponds.LONGEST, 0, 0, 6), "soonest", 27, 0, 27);
        plan(wishes(Ponds.LONGEST, 0, 0, 6, 0, 6, 0, 6), "soonest", 31, 0, 29, 1, 30, 2, 31);
        // In a line all go by in turn from one end: each step costs one minute, each next one a minute more.
        plan(wishes(Ponds.LONGEST, 0, Ponds.LINE[0], Ponds.LINE[26], Ponds.LINE[5], Ponds.LINE[10], Ponds.LINE[15],
            Ponds.LINE[20]), "soonest", 31, 0, 31, 6, 12, 18, 24);
    }

    private static void soonestOfSeveral() {
        due.says(0, "of several such plans the first as a row of minutes");
        plan(wishes("p11;.", 0, 0, 0), "soonest", 1, 0, 1);
        plan(wishes("p15;.....", 0, 4, 0), "soonest", 5, 0, 5);
        PondRings x = wishes("p15;.....", 0, 2, 0, 4);
        plan(x, "soonest", 6, 3, 0, 6);
        // One that meets none is thrown at once, though there would be time.
        PondRings y = wishes("p17;.....#.", 0, 0, 4, 6);
        plan(y, "soonest", 5, 0, 5, 0);
    }

    private static void soonestAfterChanges() {
        due.says(16, "SOONEST: the minute of the last one");
        PondRings x = wishes("p11;.", 0, 0, 0, 0, 0, 0, 0);
        plan(x, "soonest", 5, 0, 1, 2, 3, 4, 5);
        due.is(x, "wish(0, 0)", FULL);
        due.is(x, "drop(7)", OUTSIDE);
        due.is(x, "sunset(0)", 1);
        plan(x, "soonest", 5, 0, 1, 2, 3, 4, 5);
        // Those that were dropped count no more, whatever they would have met.
        for (int left = 5; left >= 1; left--) {
            due.is(x, "drop(1)", left);
            due.is("soonest(-1) of " + left, x.soonest(-1), left - 1);
            due.is("soonest of the last of " + left, x.soonest(left - 1), left - 1);
            due.is("alone(-1) of " + left, x.alone(-1), left - 1);
            due.is("sunset(20) of " + left, x.sunset(20), (1 << left) - 1);
            due.is("atOnce() of " + left, x.atOnce(), 1);
        }
        due.is(x, "wish(2, 0)", 1);
        plan(x, "soonest", 1, 0, 1);
        due.is("another pond", Ponds.read(x, "p14;...."), 4);
        plan(x, "soonest", NONE);
        due.is(x, "wish(0, 3)", 0);
        plan(x, "soonest", 0, 0);
        due.is(x, "wish(0, 0)", 1);
        plan(x, "soonest", 4, 0, 4);
    }

    private static int leastGap(int kind, int later, int steps) {
        int d = 0;
        while (Ponds.meetsInLine(kind, later, steps, d) != NONE) {
            d++;
        }
        return d;
    }

    /** The one or the other goes first, by which the later one has to wait less. */
    private static void twoInLine() {
        due.says(0, "all WISHES are thrown, each in a minute of its own choice from 0 on");
        for (int kinds = 0; kinds < 9; kinds++) {
            PondRings x = Ponds.with(Ponds.LONGEST);
            for (int steps = 0; steps <= 26; steps++) {
                int forth = leastGap(kinds / 3, kinds % 3, steps);
                int back = leastGap(kinds % 3, kinds / 3, steps);
                int last = Math.min(forth, back);
                x.wish(kinds / 3, Ponds.LINE[0]);
                x.wish(kinds % 3, Ponds.LINE[steps]);
                String pair = "kinds " + kinds / 3 + " and " + kinds % 3 + ", " + steps + " steps: ";
                due.is(pair + "soonest(-1)", x.soonest(-1), last);
                due.is(pair + "soonest(0)", x.soonest(0), forth == last ? 0 : last);
                due.is(pair + "soonest(1)", x.soonest(1), forth == last ? last : 0);
                due.is(pair + "alone(0)", x.alone(0), 0);
                due.is(pair + "alone(1)", x.alone(1), forth);
                due.is(pair + "apart(1, 0)", x.apart(1, 0), back);
                for (int t = Math.max(0, last - 1); t <= last && t <= 20; t++) {
                    due.is(pair + "sunset(" + t + ")", x.sunset(t), t >= last ? 3 : 1);
                }
                x.drop(2);
            }
        }
    }

    /** Three of all kinds, in all orders along the line, plans and turns found by trying all. */
    private static void threeInLine() {
        due.says(0, "of several such plans the first as a row of minutes");
        int[] from = {0, 2, 3, 7};
        for (int kinds = 0; kinds < 27; kinds++) {
            PondRings x = null;
            for (int places = 0; places < 64; places++) {
                if (places % 32 == 0) {
                    x = Ponds.with(Ponds.LONGEST);
                }
                int[] kind = {kinds / 9, kinds / 3 % 3, kinds % 3};
                int[] place = {from[places / 16], from[places / 4 % 4], from[places % 4]};
                for (int w = 0; w < 3; w++) {
                    x.wish(kind[w], Ponds.LINE[place[w]]);
                }
                int[] first = firstPlan(kind, place);
                int[] turns = turns(kind, place);
                for (int w = 0; w < 3; w++) {
                    due.is("soonest(" + w + ") of kinds " + kinds + ", places " + places, x.soonest(w), first[w]);
                    due.is("alone(" + w + ") of kinds " + kinds + ", places " + places, x.alone(w), turns[w]);
                }
                due.is("soonest(-1)", x.soonest(-1), Math.max(first[0], Math.max(first[1], first[2])));
                due.is("alone(-1)", x.alone(-1), Math.max(turns[0], Math.max(turns[1], turns[2])));
                x.drop(3);
            }
        }
    }

    private static boolean meet(int[] kind, int[] place, int v, int minute, int w, int later) {
        int steps = Math.abs(place[v] - place[w]);
        return (minute <= later ? Ponds.meetsInLine(kind[v], kind[w], steps, later - minute)
            : Ponds.meetsInLine(kind[w], kind[v], steps, minute - later)) != NONE;
    }

    private static int[] firstPlan(int[] kind, int[] place) {
        for (int last = 0;; last++) {
            for (int a = 0; a <= last; a++) {
                for (int b = 0; b <= last; b++) {
                    for (int c = 0; c <= last && !meet(kind, place, 0, a, 1, b); c++) {
                        if (!meet(kind, place, 0, a, 2, c) && !meet(kind, place, 1, b, 2, c)) {
                            return new int[] {a, b, c};
                        }
                    }
                }
            }
        }
    }

    private static int[] turns(int[] kind, int[] place) {
        int[] minutes = new int[3];
        while (meet(kind, place, 0, 0, 1, minutes[1])) {
            minutes[1]++;
        }
        while (meet(kind, place, 0, 0, 2, minutes[2]) || meet(kind, place, 1, minutes[1], 2, minutes[2])) {
            minutes[2]++;
        }
        return minutes;
    }

    private static void alone() {
        due.says(17, "the minute of the last one (w -1; NONE: there are no WISHES), of a WISH.");
        plan(new PondRings(), "alone", NONE);
        plan(Ponds.with(Ponds.OPEN), "alone", NONE);
        plan(wishes("p11;.", 0, 0), "alone", 0, 0);
        plan(wishes("p11;.", 0, 0, 0, 0, 0, 0, 0), "alone", 5, 0, 1, 2, 3, 4, 5);
        plan(wishes(Ponds.APART, 0, CELLS_APART), "alone", 0, 0, 0, 0, 0, 0, 0);
        // The last one is the latest, not the one of the greatest number.
        plan(wishes("p17;.....#.", 0, 0, 4, 6), "alone", 5, 0, 5, 0);
        PondRings grain = wishes(Ponds.LONGEST, 0, 0, 6);
        grain.wish(2, Ponds.LINE[13]);
        plan(grain, "alone", 27, 0, 27, 0);
    }

    /** Each must wait until the one ahead of it has gone by: no minute is too late. */
    private static void aloneBeyondTheMinutes() {
        due.says(0, "ALONE: by numbers, each is thrown in the least minute, 0 on, so that it MEETS none of those "
            + "ahead of it: the minutes.");
        plan(wishes(Ponds.LONGEST, 0, 0, 6, 0, 6, 0, 6), "alone", 135, 0, 27, 54, 81, 108, 135);
        plan(wishes(Ponds.LONGEST, 0, 6, 0, 0, 6, 6, 0), "alone", 83, 0, 27, 28, 55, 56, 83);
        // So many minutes after the first one as a long has bits, one less and one more, among others.
        for (int steps = 0; steps <= 26; steps++) {
            plan(wishes(Ponds.LONGEST, 0, 0, 6, 0, Ponds.LINE[steps]), "alone", 55 + steps, 0, 27, 54, 55 + steps);
        }
    }

    private static void sunsetMinutes() {
        due.says(0, "BY SUNSET: the most WISHES that can be thrown so in minutes 0 .. t (0 .. 20)");
        PondRings x = wishes("p11;.", 0, 0, 0, 0, 0, 0, 0);
        for (int t = 0; t <= 20; t++) {
            due.is(x, "sunset(" + t + ")", (1 << Math.min(t + 1, 6)) - 1);
        }
        due.is(x, "sunset(21)", OUTSIDE);
        due.is(x, "sunset(-1)", OUTSIDE);
        PondRings none = Ponds.with(Ponds.OPEN);
        due.is(none, "sunset(0)", 0);
        due.is(none, "sunset(20)", 0);
        PondRings free = wishes(Ponds.APART, 0, CELLS_APART);
        due.is(free, "sunset(0)", 63);
        due.is(free, "sunset(20)", 63);
    }

    private static void sunsetInLine() {
        due.says(0, "the most WISHES that can be thrown so in minutes 0 .. t (0 .. 20)");
        for (int steps = 0; steps <= 26; steps++) {
            PondRings x = wishes(Ponds.LONGEST, 0, 0, Ponds.LINE[steps]);
            for (int t = 0; t <= 20; t++) {
                due.is(steps + " steps: sunset(" + t + ")", x.sunset(t), t > steps ? 3 : 1);
            }
        }
    }

    private static void sunsetOfSeveral() {
        due.says(0, "as a set: of several the least");
        PondRings x = wishes(Ponds.LONGEST, 0, 0, 6, 0, 6, 0, 6);
        due.is(x, "sunset(0)", 0b000001);
        due.is(x, "sunset(1)", 0b000101);
        due.is(x, "sunset(2)", 0b010101);
        due.is(x, "sunset(20)", 0b010101);
        PondRings other = wishes(Ponds.LONGEST, 0, 6, 0, 0, 0);
        due.is(other, "sunset(0)", 0b0001);
        due.is(other, "sunset(1)", 0b0110);
        due.is(other, "sunset(2)", 0b1110);
    }
}
