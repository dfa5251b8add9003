import java.util.Arrays;

/**
 * A pond of water and land, stones whose rings go over it, and plans by which no two rings meet.
 * What each call promises stands in the project's document; README.md tells how to use the class.
 */
public final class PondRings {
    public static final int UNKNOWN = -1, OUTSIDE = -2, STATE = -3, FULL = -4, NONE = -9;
    public static final long LOST = Long.MIN_VALUE;

    private static final int NO_FAULT = 0, NULL_FAULT = 1, CAST_FAULT = 2, INDEX_FAULT = 3, SIZE_FAULT = 4;
    private static final int FAULTS_FROM = -10, FIRST_FAULTS_FROM = -100;
    private static final int SHEETS = 4, SORTS = 3, KINDS = 3;
    private static final int PEBBLE = 1, GRAIN = 2;
    private static final int MOST_STONES = 8, MOST_WISHES = 6, MOST_REEDS = 6;
    private static final int LAST_MINUTE = 99, LAST_RING_MINUTE = 999, LAST_SUNSET = 20;
    /** How far the ring of each kind goes. */
    private static final int[] REACH = {99, 3, 1};

    private final Sheet[] sheets;
    private final PondText text;
    private final Pond lake;
    private final Listing stones;
    private final Listing wishes;
    private final Listing reeds;
    private final Meeting meeting;
    private final Timetable timetable;
    /** For each wish the set of those ahead of it that it meets when both are thrown in one minute. */
    private final int[] clashes;
    private int traced;
    private int latestFault;

    public PondRings() {
        sheets = new Sheet[SHEETS];
        for (int k = 0; k < SHEETS; k++) {
            sheets[k] = new Sheet();
        }
        text = new PondText();
        lake = new Pond();
        stones = new Listing(MOST_STONES);
        wishes = new Listing(MOST_WISHES);
        reeds = new Listing(MOST_REEDS);
        meeting = new Meeting();
        timetable = new Timetable();
        clashes = new int[MOST_WISHES];
        traced = 0;
        latestFault = NO_FAULT;
    }

    // ---- 1 the pond

    public int pond(int sheet, int sort, int i, int n) {
        latestFault = NO_FAULT;
        if (!isSheet(sheet)) {
            return UNKNOWN;
        }
        if (!isSort(sort)) {
            return OUTSIDE;
        }
        Sheet from = sheets[sheet];
        if (from.isOfAnother(sort)) {
            return faulty(CAST_FAULT);
        }
        if (!from.there) {
            return faulty(NULL_FAULT);
        }
        if (n < 0) {
            return faulty(SIZE_FAULT);
        }
        if (!from.hasCells(i, n)) {
            return faulty(INDEX_FAULT);
        }
        int firstFault = text.read(from, i, n);
        if (firstFault != PondText.TAKEN) {
            return FIRST_FAULTS_FROM - firstFault;
        }
        lake.begin(text.high, text.wide, text.water);
        stones.count = 0;
        wishes.count = 0;
        reeds.count = 0;
        timetable.forgetPlan();
        return lake.cells;
    }

    public int water(int c) {
        if (!lake.has(c)) {
            return UNKNOWN;
        }
        return lake.isWater(c) ? 1 : 0;
    }

    public int far(int a, int b) {
        if (!lake.has(a) || !lake.has(b)) {
            return UNKNOWN;
        }
        return lake.steps(a, b);
    }

    // ---- 2 stones

    public int stone(int kind, int c, int minute) {
        if (!lake.has(c)) {
            return UNKNOWN;
        }
        if (!isKind(kind) || !isMinute(minute)) {
            return OUTSIDE;
        }
        if (!lake.isWater(c)) {
            return STATE;
        }
        return stones.add(kind, c, minute);
    }

    public int ofStone(int s, int what) {
        if (!stones.has(s)) {
            return UNKNOWN;
        }
        switch (what) {
            case 0:
                return stones.kinds[s];
            case 1:
                return stones.places[s];
            case 2:
                return stones.minutes[s];
            case 3:
                return stones.minutes[s] + lake.lasts(stones.places[s], stones.reach(s));
            default:
                return OUTSIDE;
        }
    }

    public int back(int k) {
        return stones.takeBack(k);
    }

    public long ring(int s, int minute) {
        if (!stones.has(s) || minute < 0 || minute > LAST_RING_MINUTE) {
            return LOST;
        }
        int lasts = lake.lasts(stones.places[s], stones.reach(s));
        return lake.ringAt(stones.places[s], lasts, minute - stones.minutes[s]);
    }

    public int meet(int s, int other, int what) {
        if (!stones.has(s) || !stones.has(other) || s == other) {
            return UNKNOWN;
        }
        if (what < 0 || what > 1) {
            return OUTSIDE;
        }
        if (!meeting.ofStones(lake, stones, s, other)) {
            return NONE;
        }
        return what == 0 ? meeting.minute : meeting.place;
    }

    public int first(int what) {
        if (what < 0 || what > 2) {
            return OUTSIDE;
        }
        int lesser = NONE;
        int greater = NONE;
        int minute = NONE;
        for (int a = 0; a < stones.count; a++) {
            for (int b = a + 1; b < stones.count; b++) {
                if (meeting.ofStones(lake, stones, a, b) && (minute == NONE || meeting.minute < minute)) {
                    lesser = a;
                    greater = b;
                    minute = meeting.minute;
                }
            }
        }
        if (what == 0) {
            return lesser;
        }
        return what == 1 ? greater : minute;
    }

    // ---- 3 wishes

    public int wish(int kind, int c) {
        if (!lake.has(c)) {
            return UNKNOWN;
        }
        if (!isKind(kind)) {
            return OUTSIDE;
        }
        if (!lake.isWater(c)) {
            return STATE;
        }
        int w = wishes.add(kind, c, 0);
        if (w >= 0) {
            timetable.learn(w, lake, wishes, meeting);
        }
        return w;
    }

    public int ofWish(int w, int what) {
        if (!wishes.has(w)) {
            return UNKNOWN;
        }
        if (what == 0) {
            return wishes.kinds[w];
        }
        return what == 1 ? wishes.places[w] : OUTSIDE;
    }

    public int drop(int k) {
        int left = wishes.takeBack(k);
        if (left >= 0) {
            timetable.forgetPlan();
        }
        return left;
    }

    public int apart(int w, int other) {
        if (!wishes.has(w) || !wishes.has(other) || w == other) {
            return UNKNOWN;
        }
        return timetable.leastGap(w, other);
    }

    public int atOnce() {
        return mostTogether();
    }

    public int soonest(int w) {
        if (w != -1 && !wishes.has(w)) {
            return UNKNOWN;
        }
        if (wishes.count == 0) {
            return NONE;
        }
        timetable.makePlan(wishes.count);
        return w == -1 ? timetable.lastOfPlan : timetable.plan[w];
    }

    public int alone(int w) {
        if (w != -1 && !wishes.has(w)) {
            return UNKNOWN;
        }
        if (wishes.count == 0) {
            return NONE;
        }
        int last = timetable.throwInTurn(wishes.count);
        return w == -1 ? last : timetable.minutes[w];
    }

    public int sunset(int t) {
        if (t < 0 || t > LAST_SUNSET) {
            return OUTSIDE;
        }
        return timetable.mostBy(t, wishes.count);
    }

    // ---- 4 reeds, digging

    public int reed(int c, int minute) {
        if (!lake.has(c)) {
            return UNKNOWN;
        }
        if (!isMinute(minute)) {
            return OUTSIDE;
        }
        if (!lake.isWater(c)) {
            return STATE;
        }
        return reeds.add(0, c, minute);
    }

    public int pull(int k) {
        return reeds.takeBack(k);
    }

    public int fits(int kind, int k) {
        if (!isKind(kind)) {
            return OUTSIDE;
        }
        if (k < -1) {
            return UNKNOWN;
        }
        int found = 0;
        for (int c = 0; c < lake.cells; c++) {
            int more = fitsInCell(kind, c);
            if (k >= found && k < found + more) {
                return 100 * c + firstFit(c) + k - found;
            }
            found += more;
        }
        return k == -1 ? found : NONE;
    }

    public int dig(int what) {
        if (what < 0 || what > 1) {
            return OUTSIDE;
        }
        int most = Integer.bitCount(mostTogether());
        int place = NONE;
        for (int c = 0; c < lake.cells && most < wishes.count; c++) {
            if (!lake.isWater(c)) {
                int then = mostTogetherIfDug(c);
                if (then > most) {
                    most = then;
                    place = c;
                }
            }
        }
        return what == 0 ? place : most;
    }

    // ---- 5 sheets, parts

    public int sheet(int k, int sort, int n) {
        latestFault = NO_FAULT;
        if (!isSheet(k)) {
            return UNKNOWN;
        }
        if (!isSort(sort) || n > Sheet.MOST) {
            return OUTSIDE;
        }
        if (n < 0) {
            return faulty(SIZE_FAULT);
        }
        sheets[k].renew(sort, n);
        return 1;
    }

    public int lose(int k) {
        if (!isSheet(k)) {
            return UNKNOWN;
        }
        int had = sheets[k].there ? 1 : 0;
        sheets[k].there = false;
        return had;
    }

    public int put(int k, int i, int v) {
        latestFault = NO_FAULT;
        if (!isSheet(k)) {
            return UNKNOWN;
        }
        if (!sheets[k].there) {
            return faulty(NULL_FAULT);
        }
        if (!sheets[k].hasCells(i, 1)) {
            return faulty(INDEX_FAULT);
        }
        sheets[k].take(i, v);
        return 1;
    }

    public long cell(int k, int i, int sort) {
        latestFault = NO_FAULT;
        if (!isSheet(k) || !isSort(sort)) {
            return LOST;
        }
        Sheet from = sheets[k];
        if (from.isOfAnother(sort)) {
            latestFault = CAST_FAULT;
            return LOST;
        }
        if (!from.there) {
            latestFault = NULL_FAULT;
            return LOST;
        }
        if (!from.hasCells(i, 1)) {
            latestFault = INDEX_FAULT;
            return LOST;
        }
        return from.numbers[i];
    }

    public int copy(int k, int i, int other, int j, int n) {
        latestFault = NO_FAULT;
        if (!isSheet(k) || !isSheet(other)) {
            return UNKNOWN;
        }
        Sheet from = sheets[k];
        Sheet to = sheets[other];
        if (!from.there || !to.there) {
            return faulty(NULL_FAULT);
        }
        if (to.isOfAnother(from.sort)) {
            return faulty(CAST_FAULT);
        }
        if (!from.hasCells(i, n) || !to.hasCells(j, n)) {
            return faulty(INDEX_FAULT);
        }
        System.arraycopy(from.numbers, i, to.numbers, j, n);
        return n;
    }

    public int tell(int w) {
        if (!wishes.has(w)) {
            return UNKNOWN;
        }
        int place = wishes.places[w];
        switch (wishes.kinds[w]) {
            case GRAIN:
                return grainTells(place);
            case PEBBLE:
                return pebbleTells(place);
            default:
                return stoneTells(place);
        }
    }

    public int make(int w) {
        if (!wishes.has(w)) {
            return UNKNOWN;
        }
        return wishes.kinds[w] == GRAIN ? grainMakes() : lentMakes(w);
    }

    public int as(int w, int kind) {
        latestFault = NO_FAULT;
        if (!wishes.has(w)) {
            return UNKNOWN;
        }
        if (!isKind(kind)) {
            return OUTSIDE;
        }
        // Each kind is of all the kinds with lesser numbers, too.
        return wishes.kinds[w] >= kind ? 1 : faulty(CAST_FAULT);
    }

    public int trace() {
        return traced;
    }

    public int fault() {
        return latestFault;
    }

    public int many(int what) {
        switch (what) {
            case 0:
                return lake.cells;
            case 1:
                return lake.wide;
            case 2:
                return stones.count;
            case 3:
                return wishes.count;
            case 4:
                return reeds.count;
            default:
                return OUTSIDE;
        }
    }

    // ---- what the calls share

    private int faulty(int which) {
        latestFault = which;
        return FAULTS_FROM - which;
    }

    private static boolean isSheet(int k) {
        return k >= 0 && k < SHEETS;
    }

    private static boolean isSort(int sort) {
        return sort >= 0 && sort < SORTS;
    }

    private static boolean isKind(int kind) {
        return kind >= 0 && kind < KINDS;
    }

    private static boolean isMinute(int minute) {
        return minute >= 0 && minute <= LAST_MINUTE;
    }

    private static int lowestBit(long set) {
        return Long.bitCount((set & -set) - 1);
    }

    /** In how many minutes a stone thrown into a cell fits the reeds; they follow one another from firstFit on. */
    private int fitsInCell(int kind, int c) {
        if (!lake.isWater(c)) {
            return 0;
        }
        if (reeds.count == 0) {
            return LAST_MINUTE + 1;
        }
        int minute = firstFit(c);
        for (int r = 0; r < reeds.count; r++) {
            int steps = lake.steps(c, reeds.places[r]);
            if (steps == NONE || steps > REACH[kind] || steps != reeds.minutes[r] - minute) {
                return 0;
            }
        }
        return minute >= 0 ? 1 : 0;
    }

    /** The only minute that the first reed allows, if its ring can come there at all; without reeds any will do. */
    private int firstFit(int c) {
        if (reeds.count == 0) {
            return 0;
        }
        return reeds.minutes[0] - lake.steps(c, reeds.places[0]);
    }

    private int mostTogetherIfDug(int c) {
        long before = lake.water;
        lake.turnTo(before | 1L << c);
        int most = Integer.bitCount(mostTogether());
        lake.turnTo(before);
        return most;
    }

    /** The least of the largest sets of wishes that can be thrown in one minute. */
    private int mostTogether() {
        findClashes();
        int best = 0;
        for (int set = 1; set < 1 << wishes.count; set++) {
            if (Integer.bitCount(set) > Integer.bitCount(best) && isPeaceful(set)) {
                best = set;
            }
        }
        return best;
    }

    private void findClashes() {
        Arrays.fill(clashes, 0);
        for (int a = 0; a < wishes.count; a++) {
            for (int b = a + 1; b < wishes.count; b++) {
                if (meeting.ofTwo(lake, wishes, a, b, 0)) {
                    clashes[b] |= 1 << a;
                }
            }
        }
    }

    private boolean isPeaceful(int set) {
        for (int w = 0; w < wishes.count; w++) {
            if ((set >> w & 1) != 0 && (set & clashes[w]) != 0) {
                return false;
            }
        }
        return true;
    }

    private void leave(int body) {
        traced = 31 * traced + body;
    }

    private int stoneTells(int place) {
        leave(1);
        return place;
    }

    private int pebbleTells(int place) {
        leave(2);
        return stoneTells(place) + 100;
    }

    private int grainTells(int place) {
        leave(3);
        int asPebble = pebbleTells(place);
        return asPebble + stoneTells(place);
    }

    private int lentMakes(int w) {
        leave(4);
        return w;
    }

    private int grainMakes() {
        leave(5);
        return 80;
    }

    /** A row of numbers of a sort, or nothing. Its room is made once and used for every row it gets. */
    private static final class Sheet {
        static final int MOST = 60;

        final int[] numbers = new int[MOST];
        boolean there;
        int sort;
        int length;

        void renew(int newSort, int newLength) {
            there = true;
            sort = newSort;
            length = newLength;
            Arrays.fill(numbers, 0);
        }

        /** Nothing is of every sort. */
        boolean isOfAnother(int asked) {
            return there && sort != asked;
        }

        boolean hasCells(int i, int n) {
            return i >= 0 && n >= 0 && i <= length && n <= length - i;
        }

        void take(int i, int v) {
            if (sort == 0) {
                numbers[i] = (byte) v;
            } else {
                numbers[i] = sort == 1 ? (short) v : v;
            }
        }
    }

    /** Reads the text of a pond; what it says stands in the fields when the text is taken. */
    private static final class PondText {
        static final int TAKEN = -1;
        private static final int ROWS_FROM = 3;

        int high;
        int wide;
        long water;

        /** TAKEN, or the first fault; the cells asked for are all there. */
        int read(Sheet from, int i, int n) {
            high = 0;
            wide = 0;
            water = 0;
            for (int at = 0; at < n; at++) {
                if (!goesOn(at, from.numbers[i + at])) {
                    return at;
                }
            }
            return n < ROWS_FROM || n < end() ? n : TAKEN;
        }

        private int end() {
            return ROWS_FROM + high * (wide + 1);
        }

        private boolean goesOn(int at, int code) {
            switch (at) {
                case 0:
                    return code == 'p';
                case 1:
                    high = code - '0';
                    return code >= '1' && code <= '6';
                case 2:
                    wide = code - '0';
                    return code >= '1' && code <= '7';
                default:
                    return at < end() && goesOnInRows(at - ROWS_FROM, code);
            }
        }

        private boolean goesOnInRows(int at, int code) {
            int column = at % (wide + 1) - 1;
            if (column < 0) {
                return code == ';';
            }
            if (code == '.') {
                water |= 1L << at / (wide + 1) * wide + column;
            }
            return code == '.' || code == '#';
        }
    }

    /** Cells of water and land. Sets of cells are bits: a pond has 42 cells at most. */
    private static final class Pond {
        static final int MOST_CELLS = 42;

        /** At a cell's row and a distance: the cells as far as that from it, where ready has the cell's bit. */
        private final long[] ripples = new long[MOST_CELLS * MOST_CELLS];
        /** For each ready cell, how many distances there are with any cell so far from it. */
        private final int[] depths = new int[MOST_CELLS];
        private long ready;
        private long firstColumn;
        private long lastColumn;
        int cells;
        int wide;
        long water;

        void begin(int high, int newWide, long newWater) {
            wide = newWide;
            cells = high * newWide;
            firstColumn = 0;
            for (int row = 0; row < high; row++) {
                firstColumn |= 1L << row * newWide;
            }
            lastColumn = firstColumn << newWide - 1;
            turnTo(newWater);
        }

        void turnTo(long newWater) {
            water = newWater;
            ready = 0;
        }

        boolean has(int c) {
            return c >= 0 && c < cells;
        }

        boolean isWater(int c) {
            return c >= 0 && c < cells && (water >>> c & 1) != 0;
        }

        int steps(int a, int b) {
            if (!isWater(a) || !isWater(b)) {
                return NONE;
            }
            int depth = lasts(a, MOST_CELLS);
            for (int distance = 0; distance < depth; distance++) {
                if ((ripples[a * MOST_CELLS + distance] >>> b & 1) != 0) {
                    return distance;
                }
            }
            return NONE;
        }

        /** For how many minutes a ring of a reach is anywhere. */
        int lasts(int c, int reach) {
            if (!isWater(c)) {
                return 0;
            }
            if ((ready >>> c & 1) == 0) {
                spread(c);
            }
            return Math.min(depths[c], reach + 1);
        }

        /** The cells at which a ring that lasts so many minutes is, an age after it was thrown. */
        long ringAt(int c, int lasts, int age) {
            return has(c) && age >= 0 && age < lasts ? ripples[c * MOST_CELLS + age] : 0;
        }

        private void spread(int c) {
            long front = 1L << c;
            long seen = front;
            int depth = 0;
            while (front != 0 && depth < MOST_CELLS) {
                ripples[c * MOST_CELLS + depth] = front;
                depth++;
                long inRows = (front & ~lastColumn) << 1 | (front & ~firstColumn) >>> 1;
                front = (inRows | front << wide | front >>> wide) & water & ~seen;
                seen |= front;
            }
            depths[c] = depth;
            ready |= 1L << c;
        }

        /** Of all two cells beside one another, one of each set: the lesser ones. */
        long lesserBeside(long one, long other) {
            long inRows = (one & other >>> 1 | other & one >>> 1) & ~lastColumn;
            return inRows | one & other >>> wide | other & one >>> wide;
        }
    }

    /** Things at cells, numbered by how many there are: stones, wishes, reeds. */
    private static final class Listing {
        final int[] kinds;
        final int[] places;
        final int[] minutes;
        int count;

        Listing(int most) {
            kinds = new int[most];
            places = new int[most];
            minutes = new int[most];
        }

        boolean has(int k) {
            return k >= 0 && k < count;
        }

        int reach(int k) {
            return REACH[kinds[k]];
        }

        int add(int kind, int place, int minute) {
            if (count >= kinds.length) {
                return FULL;
            }
            kinds[count] = kind;
            places[count] = place;
            minutes[count] = minute;
            count++;
            return count - 1;
        }

        int takeBack(int k) {
            if (k < 0 || k > count) {
                return OUTSIDE;
            }
            count -= k;
            return count;
        }
    }

    /** Where and when two rings meet first; the fields tell it when one was found. */
    private static final class Meeting {
        int minute;
        int place;

        boolean ofStones(Pond pond, Listing stones, int a, int b) {
            int gap = stones.minutes[b] - stones.minutes[a];
            boolean found = gap >= 0 ? ofTwo(pond, stones, a, b, gap) : ofTwo(pond, stones, b, a, -gap);
            if (found) {
                minute += Math.min(stones.minutes[a], stones.minutes[b]);
            }
            return found;
        }

        /** The late one is thrown gap minutes after the early one, which is thrown in minute 0. */
        boolean ofTwo(Pond pond, Listing rings, int early, int late, int gap) {
            int earlyPlace = rings.places[early];
            int latePlace = rings.places[late];
            int earlyLasts = pond.lasts(earlyPlace, rings.reach(early));
            int lateLasts = pond.lasts(latePlace, rings.reach(late));
            for (int age = 0; age < lateLasts && age + gap < earlyLasts; age++) {
                long one = pond.ringAt(earlyPlace, earlyLasts, age + gap);
                long other = pond.ringAt(latePlace, lateLasts, age);
                long met = one & other;
                if (met == 0) {
                    long oneNext = pond.ringAt(earlyPlace, earlyLasts, age + gap + 1);
                    long otherNext = pond.ringAt(latePlace, lateLasts, age + 1);
                    met = pond.lesserBeside(one & otherNext, other & oneNext);
                }
                if (met != 0) {
                    minute = age + gap;
                    place = lowestBit(met);
                    return true;
                }
            }
            return false;
        }
    }

    /**
     * Minutes for wishes. A wish thrown more minutes after another than it is far from it never meets it,
     * so that by some order all six are thrown before minute 64: sets of minutes are bits of a long.
     */
    private static final class Timetable {
        private static final int MOST = MOST_WISHES;
        private static final int LAST = 63;
        /** Far above what five other wishes can keep a sixth from. */
        private static final int LAST_IN_TURN = 1000;

        /** At i and j: bit d, when wish j thrown d minutes after wish i meets it. */
        private final long[] after = new long[MOST * MOST];
        /** At i and j: bit 63 - d, when wish j thrown d minutes before wish i meets it. */
        private final long[] before = new long[MOST * MOST];
        /** A row for each number, 0 to all, of wishes that have their minutes: those that are left to the others. */
        private final long[] left = new long[(MOST + 1) * MOST];
        private final int[] weights = new int[MOST];
        private boolean planned;
        final int[] minutes = new int[MOST];
        final int[] plan = new int[MOST];
        int lastOfPlan;

        void forgetPlan() {
            planned = false;
        }

        void learn(int w, Pond pond, Listing wishes, Meeting meeting) {
            forgetPlan();
            for (int v = 0; v < w; v++) {
                learnPair(v, w, pond, wishes, meeting);
                learnPair(w, v, pond, wishes, meeting);
            }
        }

        private void learnPair(int i, int j, Pond pond, Listing wishes, Meeting meeting) {
            long gaps = 0;
            long mirrored = 0;
            int minutesOfFirst = pond.lasts(wishes.places[i], wishes.reach(i));
            for (int gap = 0; gap < minutesOfFirst; gap++) {
                if (meeting.ofTwo(pond, wishes, i, j, gap)) {
                    gaps |= 1L << gap;
                    mirrored |= 1L << LAST - gap;
                }
            }
            after[i * MOST + j] = gaps;
            before[j * MOST + i] = mirrored;
        }

        int leastGap(int i, int j) {
            return lowestBit(~after[i * MOST + j]);
        }

        /** Each wish, by numbers, takes the least minute that those ahead leave: the minute of the last one thrown. */
        int throwInTurn(int count) {
            int last = 0;
            for (int w = 0; w < count; w++) {
                int minute = 0;
                while (minute < LAST_IN_TURN && meetsOneAhead(w, minute)) {
                    minute++;
                }
                minutes[w] = minute;
                last = Math.max(last, minute);
            }
            return last;
        }

        private boolean meetsOneAhead(int w, int minute) {
            for (int v = 0; v < w; v++) {
                int gap = minute - minutes[v];
                long gaps = gap >= 0 ? after[v * MOST + w] : after[w * MOST + v];
                int size = Math.abs(gap);
                if (size <= LAST && (gaps >>> size & 1) != 0) {
                    return true;
                }
            }
            return false;
        }

        void makePlan(int count) {
            if (planned) {
                return;
            }
            int all = (1 << count) - 1;
            int last = widestPair(count);
            while (!canThrow(all, last) && last < LAST) {
                last++;
            }
            lastOfPlan = last;
            for (int w = 0; w < count; w++) {
                plan[w] = firstThatWillDo(w, all >> w + 1 << w + 1);
            }
            planned = true;
        }

        /** The least minute for a wish, those ahead of it having theirs, by which the others can have theirs, too. */
        private int firstThatWillDo(int w, int others) {
            long open = left[w * MOST + w];
            for (int tries = Long.bitCount(open); tries > 0; tries--) {
                int minute = lowestBit(open);
                open &= open - 1;
                if (leavesRoom(w, others, w, minute) && canPlace(w + 1, others)) {
                    return minute;
                }
            }
            return 0;
        }

        /** No plan for all is over sooner than one for two of them. */
        private int widestPair(int count) {
            int widest = 0;
            for (int i = 0; i < count; i++) {
                for (int j = i + 1; j < count; j++) {
                    widest = Math.max(widest, Math.min(leastGap(i, j), leastGap(j, i)));
                }
            }
            return widest;
        }

        /** The least of the largest sets of wishes that can be thrown in minutes 0 to last. */
        int mostBy(int last, int count) {
            for (int size = count; size > 0; size--) {
                for (int set = 1; set < 1 << count; set++) {
                    if (Integer.bitCount(set) == size && canThrow(set, last)) {
                        return set;
                    }
                }
            }
            return 0;
        }

        private boolean canThrow(int set, int last) {
            Arrays.fill(left, -1L >>> LAST - last);
            for (int w = 0; w < MOST; w++) {
                weights[w] = weightIn(set, w);
            }
            return canPlace(0, set);
        }

        /** From how many minutes a wish keeps the others of a set. */
        private int weightIn(int set, int w) {
            int weight = 0;
            for (int o = 0; o < MOST; o++) {
                if (o != w && (set >> o & 1) != 0) {
                    weight += Long.bitCount(after[w * MOST + o]) + Long.bitCount(before[w * MOST + o]);
                }
            }
            return weight;
        }

        /** Whether all that wait can have their minutes, when placed others have theirs; six have them at most. */
        private boolean canPlace(int placed, int waiting) {
            if (waiting == 0 || placed >= MOST) {
                return true;
            }
            int w = tightest(placed, waiting);
            int others = waiting & ~(1 << w);
            long open = left[placed * MOST + w];
            for (int tries = Long.bitCount(open); tries > 0; tries--) {
                int minute = lowestBit(open);
                open &= open - 1;
                if (leavesRoom(placed, others, w, minute) && canPlace(placed + 1, others)) {
                    return true;
                }
            }
            return false;
        }

        /**
         * The one with the fewest minutes left, of several the one that keeps the others from the most: with it
         * first, what can't be is found out soonest.
         */
        private int tightest(int placed, int waiting) {
            int best = lowestBit(waiting);
            int fewest = Long.bitCount(left[placed * MOST + best]);
            for (int w = best + 1; w < MOST; w++) {
                if ((waiting >> w & 1) != 0) {
                    int few = Long.bitCount(left[placed * MOST + w]);
                    if (few < fewest || few == fewest && weights[w] > weights[best]) {
                        best = w;
                        fewest = few;
                    }
                }
            }
            return best;
        }

        /** Takes from the others the minutes in which they would meet a wish: whether each still has one. */
        private boolean leavesRoom(int placed, int others, int w, int minute) {
            for (int o = 0; o < MOST; o++) {
                if ((others >> o & 1) != 0) {
                    int pair = w * MOST + o;
                    long taken = after[pair] << minute | before[pair] >>> LAST - minute;
                    long rest = left[placed * MOST + o] & ~taken;
                    if (rest == 0) {
                        return false;
                    }
                    left[(placed + 1) * MOST + o] = rest;
                }
            }
            return true;
        }
    }
}
