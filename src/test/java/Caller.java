import java.lang.reflect.InvocationTargetException;
import java.lang.reflect.Method;
import java.util.HashMap;
import java.util.Map;

/** Calls a method of the class by its name; a boolean counts 1 or 0, as an argument and as an answer. */
final class Caller {
    private static final Map<String, Method> METHODS = new HashMap<>();

    static {
        for (Method m : SilentTurn.class.getMethods()) {
            METHODS.put(m.getName(), m);
        }
    }

    private Caller() {
    }

    static long call(SilentTurn x, String name, long... a) {
        Method m = METHODS.get(name);
        Class<?>[] types = m.getParameterTypes();
        Object[] arguments = new Object[types.length];
        for (int i = 0; i < types.length; i++) {
            if (types[i] == boolean.class) {
                arguments[i] = a[i] == 1;
            } else if (types[i] == long.class) {
                arguments[i] = a[i];
            } else {
                arguments[i] = (int) a[i];
            }
        }
        try {
            Object answer = m.invoke(x, arguments);
            if (answer instanceof Boolean is) {
                return is ? 1 : 0;
            }
            return ((Number) answer).longValue();
        } catch (IllegalAccessException | InvocationTargetException e) {
            throw new IllegalStateException(name, e);
        }
    }
}
