import java.lang.reflect.InvocationTargetException;
import java.lang.reflect.Method;
import java.util.Arrays;
import java.util.HashMap;
import java.util.Map;

/** Calls a method of the class by its name; a boolean counts 1 or 0, as an argument and as an answer. */
final class Caller {
    private static final Map<String, Method> METHODS = new HashMap<>();

    static {
        for (Method m : SilentTurn.class.getMethods()) {
            METHODS.put(m.getName(), m);
        }
    }

    private Caller() {
    }

    /** A call as it is written, of numbers alone: minute(5), wake(2, 1). */
    static long call(SilentTurn x, String text) {
        int open = text.indexOf('(');
        String inside = text.substring(open + 1, text.length() - 1).trim();
        long[] a = inside.isEmpty() ? new long[0]
                : Arrays.stream(inside.split(",")).mapToLong(n -> Long.parseLong(n.trim())).toArray();
        return call(x, text.substring(0, open), a);
    }

    /** What a call gives that is refused: false, which counts 0, or NONE. */
    static long refusal(String name) {
        return METHODS.get(name).getReturnType() == boolean.class ? 0 : SilentTurn.NONE;
    }

    static long call(SilentTurn x, String name, long... a) {
        Method m = METHODS.get(name);
        Class<?>[] types = m.getParameterTypes();
        Object[] arguments = new Object[types.length];
        for (int i = 0; i < types.length; i++) {
            if (types[i] == boolean.class) {
                arguments[i] = a[i] == 1;
            } else if (types[i] == long.class) {
                arguments[i] = a[i];
            } else {
                arguments[i] = (int) a[i];
            }
        }
        try {
            Object answer = m.invoke(x, arguments);
            if (answer instanceof Boolean is) {
                return is ? 1 : 0;
            }
            return ((Number) answer).longValue();
        } catch (IllegalAccessException | InvocationTargetException e) {
            throw new IllegalStateException(name, e);
        }
    }
}
