import java.lang.reflect.InvocationTargetException;
import java.lang.reflect.Method;
import java.util.HashMap;
import java.util.Map;

/** Calls told as in the document: "pond(0, 0, 0, 11)"; MIN and MAX are the least and the greatest int. */
final class Told {
    private static final Map<String, Method> METHODS = new HashMap<>();

    static {
        for (Method method : PondRings.class.getMethods()) {
            if (method.getDeclaringClass() == PondRings.class) {
                METHODS.put(method.getName(), method);
            }
        }
    }

    private Told() {
    }

    static long call(PondRings x, String told) {
        int open = told.indexOf('(');
        Method method = METHODS.get(told.substring(0, open));
        String inside = told.substring(open + 1, told.length() - 1);
        String[] words = inside.isEmpty() ? new String[0] : inside.split(", ");
        Object[] numbers = new Object[words.length];
        for (int i = 0; i < words.length; i++) {
            numbers[i] = number(words[i]);
        }
        try {
            return ((Number) method.invoke(x, numbers)).longValue();
        } catch (InvocationTargetException | IllegalAccessException e) {
            throw new IllegalStateException(told, e);
        }
    }

    private static int number(String word) {
        switch (word) {
            case "MIN":
                return Integer.MIN_VALUE;
            case "MAX":
                return Integer.MAX_VALUE;
            default:
                return Integer.parseInt(word);
        }
    }
}
