import java.util.ArrayList;
import java.util.Arrays;
import java.util.List;

/**
 * The document once more, as slow and as plain as can be and on other ways than the class: real arrays whose
 * faults are the machine's own, a class for each kind, steps counted by relaxing, plans by trying them all.
 */
final class PlainPond {
    private static final int UNKNOWN = -1, OUTSIDE = -2, STATE = -3, FULL = -4, NONE = -9;
    private static final long LOST = Long.MIN_VALUE;
    private static final int NEVER = 1000;

    private class Stone {
        final int place;
        final int minute;
        final int number;

        Stone(int place, int minute, int number) {
            this.place = place;
            this.minute = minute;
            this.number = number;
        }

        int kind() {
            return 0;
        }

        int goes() {
            return 99;
        }

        final int stonesOwn() {
            trace = trace * 31 + 1;
            return place;
        }

        int telling() {
            return stonesOwn();
        }

        int making() {
            trace = trace * 31 + 4;
            return number;
        }

        boolean isAt(int cell, int when) {
            return steps[place][cell] <= goes() && steps[place][cell] == when - minute;
        }
    }

    private class Pebble extends Stone {
        Pebble(int place, int minute, int number) {
            super(place, minute, number);
        }

        @Override
        int kind() {
            return 1;
        }

        @Override
        int goes() {
            return 3;
        }

        @Override
        int telling() {
            trace = trace * 31 + 2;
            return super.telling() + 100;
        }
    }

    private class Grain extends Pebble {
        Grain(int place, int minute, int number) {
            super(place, minute, number);
        }

        @Override
        int kind() {
            return 2;
        }

        @Override
        int goes() {
            return 1;
        }

        @Override
        int telling() {
            trace = trace * 31 + 3;
            int first = super.telling();
            return first + stonesOwn();
        }

        @Override
        int making() {
            trace = trace * 31 + 5;
            return 80;
        }
    }

    private final Object[] sheets = new Object[4];
    private String map = "";
    private int high = 0;
    private int wide = 0;
    private int[][] steps = new int[0][0];
    private final List<Stone> stones = new ArrayList<>();
    private final List<Stone> wishes = new ArrayList<>();
    private final List<int[]> reeds = new ArrayList<>();
    private int trace = 0;
    private int fault = 0;

    private Stone of(int kind, int place, int minute, int number) {
        if (kind == 0) {
            return new Stone(place, minute, number);
        }
        return kind == 1 ? new Pebble(place, minute, number) : new Grain(place, minute, number);
    }

    private int fault(RuntimeException e) {
        if (e instanceof NullPointerException) {
            fault = 1;
        } else if (e instanceof ClassCastException || e instanceof ArrayStoreException) {
            fault = 2;
        } else if (e instanceof IndexOutOfBoundsException) {
            fault = 3;
        } else if (e instanceof NegativeArraySizeException) {
            fault = 4;
        } else {
            throw e;
        }
        return -10 - fault;
    }

    private static Object taken(Object row, int sort) {
        if (sort == 0) {
            return (byte[]) row;
        }
        return sort == 1 ? (Object) (short[]) row : (int[]) row;
    }

    private static int length(Object row) {
        return java.lang.reflect.Array.getLength(row);
    }

    private static int number(Object row, int i) {
        return java.lang.reflect.Array.getInt(row, i);
    }

    private boolean noSheet(int k) {
        return k < 0 || k > 3;
    }

    private boolean noCell(int c) {
        return c < 0 || c >= map.length();
    }

    private boolean land(int c) {
        return map.charAt(c) == '#';
    }

    private boolean beside(int a, int b) {
        return Math.abs(a / wide - b / wide) + Math.abs(a % wide - b % wide) == 1;
    }

    int pond(int sheet, int sort, int i, int n) {
        fault = 0;
        if (noSheet(sheet)) {
            return UNKNOWN;
        }
        if (sort < 0 || sort > 2) {
            return OUTSIDE;
        }
        int[] codes;
        try {
            Object row = taken(sheets[sheet], sort);
            length(row);
            codes = new int[Math.min(n, 1000)];
            if (i < 0 || i > length(row) || (long) i + n > length(row)) {
                throw new IndexOutOfBoundsException();
            }
            for (int c = 0; c < n; c++) {
                codes[c] = number(row, i + c);
            }
        } catch (RuntimeException e) {
            return fault(e);
        }
        StringBuilder text = new StringBuilder();
        for (int code : codes) {
            text.append(code >= 0 && code < 128 ? (char) code : '?');
        }
        return read(text.toString());
    }

    /** A text goes on as long as some whole text begins so. */
    private int read(String text) {
        for (int taken = 1; taken <= text.length(); taken++) {
            if (!begins(text.substring(0, taken))) {
                return -100 - (taken - 1);
            }
        }
        if (!whole(text)) {
            return -100 - text.length();
        }
        high = text.charAt(1) - '0';
        wide = text.charAt(2) - '0';
        map = text.substring(3).replace(";", "");
        steps = stepsOn(map);
        stones.clear();
        wishes.clear();
        reeds.clear();
        return map.length();
    }

    private static boolean whole(String text) {
        if (!text.matches("p[1-6][1-7](;[.#]+)+")) {
            return false;
        }
        return text.matches("p..(;[.#]{" + text.charAt(2) + "}){" + text.charAt(1) + "}");
    }

    private static boolean begins(String text) {
        for (char h = '1'; h <= '6'; h++) {
            for (char w = '1'; w <= '7'; w++) {
                StringBuilder full = new StringBuilder("p").append(h).append(w);
                for (int r = 0; r < h - '0'; r++) {
                    full.append(';').append("_______", 0, w - '0');
                }
                if (alike(text, full.toString())) {
                    return true;
                }
            }
        }
        return false;
    }

    private static boolean alike(String text, String full) {
        if (text.length() > full.length()) {
            return false;
        }
        for (int i = 0; i < text.length(); i++) {
            char c = text.charAt(i);
            char f = full.charAt(i);
            if (f == '_' ? c != '.' && c != '#' : c != f) {
                return false;
            }
        }
        return true;
    }

    private int[][] stepsOn(String cells) {
        int n = cells.length();
        int[][] far = new int[n][n];
        for (int a = 0; a < n; a++) {
            Arrays.fill(far[a], NEVER);
            for (int b = 0; b < n; b++) {
                if (cells.charAt(a) == '.' && cells.charAt(b) == '.') {
                    far[a][b] = a == b ? 0 : beside(a, b) ? 1 : NEVER;
                }
            }
        }
        for (int m = 0; m < n; m++) {
            for (int a = 0; a < n; a++) {
                for (int b = 0; b < n; b++) {
                    far[a][b] = Math.min(far[a][b], far[a][m] + far[m][b]);
                }
            }
        }
        return far;
    }

    int water(int c) {
        return noCell(c) ? UNKNOWN : land(c) ? 0 : 1;
    }

    int far(int a, int b) {
        if (noCell(a) || noCell(b)) {
            return UNKNOWN;
        }
        return steps[a][b] >= NEVER ? NONE : steps[a][b];
    }

    int stone(int kind, int c, int minute) {
        if (noCell(c)) {
            return UNKNOWN;
        }
        if (kind < 0 || kind > 2 || minute < 0 || minute > 99) {
            return OUTSIDE;
        }
        if (land(c)) {
            return STATE;
        }
        if (stones.size() == 8) {
            return FULL;
        }
        stones.add(of(kind, c, minute, stones.size()));
        return stones.size() - 1;
    }

    int ofStone(int s, int what) {
        if (s < 0 || s >= stones.size()) {
            return UNKNOWN;
        }
        Stone stone = stones.get(s);
        if (what < 0 || what > 3) {
            return OUTSIDE;
        }
        int over = stone.minute;
        while (cells(stone, over) != 0) {
            over++;
        }
        return new int[] {stone.kind(), stone.place, stone.minute, over}[what];
    }

    private static int shorten(List<?> list, int k) {
        if (k < 0 || k > list.size()) {
            return OUTSIDE;
        }
        for (int i = 0; i < k; i++) {
            list.remove(list.size() - 1);
        }
        return list.size();
    }

    int back(int k) {
        return shorten(stones, k);
    }

    private long cells(Stone stone, int minute) {
        long set = 0;
        for (int c = 0; c < map.length(); c++) {
            if (stone.isAt(c, minute)) {
                set += 1L << c;
            }
        }
        return set;
    }

    long ring(int s, int minute) {
        if (s < 0 || s >= stones.size() || minute < 0 || minute > 999) {
            return LOST;
        }
        return cells(stones.get(s), minute);
    }

    /** Minute and cell, or null. */
    private int[] meeting(Stone a, Stone b) {
        int from = Math.max(a.minute, b.minute);
        for (int m = from; cells(a, m) != 0 && cells(b, m) != 0; m++) {
            for (int c = 0; c < map.length(); c++) {
                if (a.isAt(c, m) && b.isAt(c, m)) {
                    return new int[] {m, c};
                }
            }
            for (int c = 0; c < map.length(); c++) {
                for (int d = c + 1; d < map.length(); d++) {
                    if (beside(c, d) && (pass(a, b, c, d, m) || pass(a, b, d, c, m))) {
                        return new int[] {m, c};
                    }
                }
            }
        }
        return null;
    }

    private static boolean pass(Stone a, Stone b, int c, int d, int m) {
        return a.isAt(c, m) && a.isAt(d, m + 1) && b.isAt(d, m) && b.isAt(c, m + 1);
    }

    int meet(int s, int other, int what) {
        if (s < 0 || s >= stones.size() || other < 0 || other >= stones.size() || s == other) {
            return UNKNOWN;
        }
        if (what != 0 && what != 1) {
            return OUTSIDE;
        }
        int[] met = meeting(stones.get(s), stones.get(other));
        return met == null ? NONE : met[what];
    }

    int first(int what) {
        if (what < 0 || what > 2) {
            return OUTSIDE;
        }
        for (int m = 0; m < 160; m++) {
            for (int a = 0; a < stones.size(); a++) {
                for (int b = a + 1; b < stones.size(); b++) {
                    int[] met = meeting(stones.get(a), stones.get(b));
                    if (met != null && met[0] == m) {
                        return new int[] {a, b, m}[what];
                    }
                }
            }
        }
        return NONE;
    }

    int wish(int kind, int c) {
        if (noCell(c)) {
            return UNKNOWN;
        }
        if (kind < 0 || kind > 2) {
            return OUTSIDE;
        }
        if (land(c)) {
            return STATE;
        }
        if (wishes.size() == 6) {
            return FULL;
        }
        wishes.add(of(kind, c, 0, wishes.size()));
        return wishes.size() - 1;
    }

    private boolean noWish(int w) {
        return w < 0 || w >= wishes.size();
    }

    int ofWish(int w, int what) {
        if (noWish(w)) {
            return UNKNOWN;
        }
        if (what < 0 || what > 1) {
            return OUTSIDE;
        }
        return what == 0 ? wishes.get(w).kind() : wishes.get(w).place;
    }

    int drop(int k) {
        return shorten(wishes, k);
    }

    private boolean meets(int v, int minute, int w, int later) {
        if (Math.abs(minute - later) > 60) {
            return false;
        }
        Stone a = wishes.get(v);
        Stone b = wishes.get(w);
        return meeting(of(a.kind(), a.place, minute, 0), of(b.kind(), b.place, later, 0)) != null;
    }

    int apart(int w, int other) {
        if (noWish(w) || noWish(other) || w == other) {
            return UNKNOWN;
        }
        int d = 0;
        while (meets(w, 0, other, d)) {
            d++;
        }
        return d;
    }

    int atOnce() {
        return together(0);
    }

    private int together(int last) {
        boolean[][][] bad = pairs(last);
        int best = 0;
        for (int set = 1; set < 1 << wishes.size(); set++) {
            if (Integer.bitCount(set) > Integer.bitCount(best) && plan(set, 0, last, new int[6], bad)) {
                best = set;
            }
        }
        return best;
    }

    /** At v, w and d + 64: whether w, thrown d minutes later than v, meets it. */
    private boolean[][][] pairs(int most) {
        boolean[][][] bad = new boolean[6][6][129];
        for (int v = 0; v < wishes.size(); v++) {
            for (int w = 0; w < wishes.size(); w++) {
                for (int d = -Math.min(64, most); v != w && d <= Math.min(64, most); d++) {
                    bad[v][w][d + 64] = meets(v, 64, w, d + 64);
                }
            }
        }
        return bad;
    }

    private boolean plan(int set, int w, int last, int[] minutes, boolean[][][] bad) {
        if (w == wishes.size()) {
            return true;
        }
        if ((set & 1 << w) == 0) {
            return plan(set, w + 1, last, minutes, bad);
        }
        for (int t = 0; t <= last; t++) {
            boolean good = true;
            for (int v = 0; v < w; v++) {
                good &= (set & 1 << v) == 0 || !bad[v][w][t - minutes[v] + 64];
            }
            minutes[w] = t;
            if (good && plan(set, w + 1, last, minutes, bad)) {
                return true;
            }
        }
        return false;
    }

    int soonest(int w) {
        if (w != -1 && noWish(w)) {
            return UNKNOWN;
        }
        if (wishes.isEmpty()) {
            return NONE;
        }
        boolean[][][] bad = pairs(64);
        int[] minutes = new int[6];
        int last = 0;
        while (!plan((1 << wishes.size()) - 1, 0, last, minutes, bad)) {
            last++;
        }
        return w == -1 ? last : minutes[w];
    }

    int alone(int w) {
        if (w != -1 && noWish(w)) {
            return UNKNOWN;
        }
        int[] minutes = new int[6];
        int last = NONE;
        for (int v = 0; v < wishes.size(); v++) {
            boolean again = true;
            for (int t = 0; again; t++) {
                again = false;
                for (int u = 0; u < v; u++) {
                    again |= meets(u, minutes[u], v, t);
                }
                minutes[v] = t;
            }
            last = Math.max(last, minutes[v]);
        }
        return w == -1 ? last : minutes[w];
    }

    int sunset(int t) {
        return t < 0 || t > 20 ? OUTSIDE : together(t);
    }

    int reed(int c, int minute) {
        if (noCell(c)) {
            return UNKNOWN;
        }
        if (minute < 0 || minute > 99) {
            return OUTSIDE;
        }
        if (land(c)) {
            return STATE;
        }
        if (reeds.size() == 6) {
            return FULL;
        }
        reeds.add(new int[] {c, minute});
        return reeds.size() - 1;
    }

    int pull(int k) {
        return shorten(reeds, k);
    }

    int fits(int kind, int k) {
        if (kind < 0 || kind > 2) {
            return OUTSIDE;
        }
        if (k < -1) {
            return UNKNOWN;
        }
        List<Integer> all = new ArrayList<>();
        for (int c = 0; c < map.length(); c++) {
            for (int m = 0; m < 100 && !land(c); m++) {
                boolean fits = true;
                for (int[] reed : reeds) {
                    fits &= of(kind, c, m, 0).isAt(reed[0], reed[1]);
                }
                if (fits) {
                    all.add(100 * c + m);
                }
            }
        }
        if (k == -1) {
            return all.size();
        }
        return k < all.size() ? all.get(k) : NONE;
    }

    int dig(int what) {
        if (what < 0 || what > 1) {
            return OUTSIDE;
        }
        int[][] now = steps;
        int most = Integer.bitCount(together(0));
        int place = NONE;
        for (int c = 0; c < map.length(); c++) {
            if (land(c)) {
                steps = stepsOn(map.substring(0, c) + "." + map.substring(c + 1));
                int then = Integer.bitCount(together(0));
                if (then > most) {
                    most = then;
                    place = c;
                }
            }
        }
        steps = now;
        return what == 0 ? place : most;
    }

    int sheet(int k, int sort, int n) {
        fault = 0;
        if (noSheet(k)) {
            return UNKNOWN;
        }
        if (sort < 0 || sort > 2 || n > 60) {
            return OUTSIDE;
        }
        try {
            sheets[k] = sort == 0 ? new byte[n] : sort == 1 ? (Object) new short[n] : new int[n];
            return 1;
        } catch (RuntimeException e) {
            return fault(e);
        }
    }

    int lose(int k) {
        if (noSheet(k)) {
            return UNKNOWN;
        }
        int had = sheets[k] == null ? 0 : 1;
        sheets[k] = null;
        return had;
    }

    int put(int k, int i, int v) {
        fault = 0;
        if (noSheet(k)) {
            return UNKNOWN;
        }
        try {
            if (sheets[k] instanceof byte[]) {
                ((byte[]) sheets[k])[i] = (byte) v;
            } else if (sheets[k] instanceof short[]) {
                ((short[]) sheets[k])[i] = (short) v;
            } else {
                ((int[]) sheets[k])[i] = v;
            }
            return 1;
        } catch (RuntimeException e) {
            return fault(e);
        }
    }

    long cell(int k, int i, int sort) {
        fault = 0;
        if (noSheet(k) || sort < 0 || sort > 2) {
            return LOST;
        }
        try {
            return number(taken(sheets[k], sort), i);
        } catch (RuntimeException e) {
            fault(e);
            return LOST;
        }
    }

    int copy(int k, int i, int other, int j, int n) {
        fault = 0;
        if (noSheet(k) || noSheet(other)) {
            return UNKNOWN;
        }
        try {
            System.arraycopy(sheets[k], i, sheets[other], j, n);
            return n;
        } catch (RuntimeException e) {
            return fault(e);
        }
    }

    int tell(int w) {
        return noWish(w) ? UNKNOWN : wishes.get(w).telling();
    }

    int make(int w) {
        return noWish(w) ? UNKNOWN : wishes.get(w).making();
    }

    int as(int w, int kind) {
        fault = 0;
        if (noWish(w)) {
            return UNKNOWN;
        }
        if (kind < 0 || kind > 2) {
            return OUTSIDE;
        }
        try {
            Object wish = wishes.get(w);
            Object taken = kind == 0 ? (Stone) wish : kind == 1 ? (Pebble) wish : (Grain) wish;
            return taken == null ? 0 : 1;
        } catch (RuntimeException e) {
            return fault(e);
        }
    }

    int trace() {
        return trace;
    }

    int fault() {
        return fault;
    }

    int many(int what) {
        if (what < 0 || what > 4) {
            return OUTSIDE;
        }
        return new int[] {map.length(), wide, stones.size(), wishes.size(), reeds.size()}[what];
    }
}
