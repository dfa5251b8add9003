import java.lang.reflect.Method;
import java.util.ArrayList;
import java.util.Comparator;
import java.util.List;
import java.util.Random;

/** Long runs of calls by chance (always the same ones), each answer held against the plain one. */
public final class RandomRunsTest {
    private static final Due due = new Due("RandomRunsTest");
    private static final int RUNS = 400, CALLS = 512;
    private static final int[] EDGES = {
        -2, -1, 0, 1, 2, 3, 4, 41, 42, 59, 60, 61, 63, 64, 99, 100, 999, 1000, Integer.MAX_VALUE, Integer.MIN_VALUE};

    private final Random chance;
    private final int run;
    private final PondRings x = new PondRings();
    private final PlainPond plain = new PlainPond();
    private int calls = 0;

    private RandomRunsTest(int run) {
        this.run = run;
        this.chance = new Random(run);
    }

    public static void main(String[] args) throws Exception {
        List<Method> methods = new ArrayList<>();
        for (Method m : PondRings.class.getDeclaredMethods()) {
            if (java.lang.reflect.Modifier.isPublic(m.getModifiers())) {
                methods.add(m);
            }
        }
        methods.sort(Comparator.comparing(Method::getName));
        for (int run = 0; run < RUNS; run++) {
            new RandomRunsTest(run).go(methods);
        }
        due.end();
    }

    private void go(List<Method> methods) throws Exception {
        if (run % 20 != 0) {
            pond();
        }
        while (calls < CALLS) {
            int way = chance.nextInt(100);
            if (way < 1 && calls < CALLS - 80) {
                pond();
            } else if (way < 25) {
                add();
            } else {
                Method m = methods.get(chance.nextInt(methods.size()));
                call(m, numbers(m));
            }
        }
    }

    private void call(Method m, Object[] numbers) throws Exception {
        calls++;
        Method same = PlainPond.class.getDeclaredMethod(m.getName(), m.getParameterTypes());
        long got = ((Number) m.invoke(x, numbers)).longValue();
        long want = ((Number) same.invoke(plain, numbers)).longValue();
        due.is("run " + run + " call " + calls + " " + m.getName() + java.util.Arrays.toString(numbers), got, want);
    }

    private void call(String name, int... numbers) throws Exception {
        Class<?>[] types = new Class<?>[numbers.length];
        Object[] boxed = new Object[numbers.length];
        for (int i = 0; i < numbers.length; i++) {
            types[i] = int.class;
            boxed[i] = numbers[i];
        }
        call(PondRings.class.getMethod(name, types), boxed);
    }

    private Object[] numbers(Method m) {
        Object[] numbers = new Object[m.getParameterCount()];
        for (int i = 0; i < numbers.length; i++) {
            int way = chance.nextInt(20);
            numbers[i] = way == 0 ? EDGES[chance.nextInt(EDGES.length)]
                : way < 16 ? chance.nextInt(8) - 1 : chance.nextInt(44) - 1;
        }
        return numbers;
    }

    private void add() throws Exception {
        int place = chance.nextInt(plain.many(0) + 1);
        int kind = chance.nextInt(5) < 3 ? 0 : chance.nextInt(3);
        int what = chance.nextInt(8);
        if (what < 2) {
            call("stone", kind, place, chance.nextInt(chance.nextBoolean() ? 8 : 100));
        } else if (what < 5) {
            call("wish", kind, place);
        } else if (what < 6) {
            call("reed", place, 20 + chance.nextInt(chance.nextBoolean() ? 4 : 20));
        } else if (what < 7) {
            call("soonest", -1);
        } else {
            call("sunset", chance.nextInt(21));
        }
    }

    /** Mostly texts that are taken; some with one code that is another, or cut. */
    private void pond() throws Exception {
        int high = 1 + chance.nextInt(6);
        int wide = 1 + chance.nextInt(7);
        int land = chance.nextInt(60);
        StringBuilder text = new StringBuilder("p").append(high).append(wide);
        boolean snake = chance.nextInt(4) == 0;
        for (int r = 0; r < high; r++) {
            text.append(';');
            for (int c = 0; c < wide; c++) {
                boolean wall = snake ? r % 2 == 1 && c != (r / 2 % 2 == 0 ? wide - 1 : 0) : chance.nextInt(100) < land;
                text.append(wall ? '#' : '.');
            }
        }
        int spoil = chance.nextInt(10);
        if (spoil == 0) {
            text.setCharAt(chance.nextInt(text.length()), "p;.#0129".charAt(chance.nextInt(8)));
        } else if (spoil == 1) {
            text.setLength(chance.nextInt(text.length()));
        } else if (spoil == 2) {
            text.append("p;.#0129".charAt(chance.nextInt(8)));
        }
        int sheet = chance.nextInt(4);
        int sort = chance.nextInt(3);
        int from = chance.nextInt(3);
        call("sheet", sheet, sort, from + text.length());
        for (int i = 0; i < text.length(); i++) {
            call("put", sheet, from + i, text.charAt(i));
        }
        call("pond", sheet, sort, from, text.length());
    }
}
