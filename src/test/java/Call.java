import java.lang.reflect.Method;
import java.util.HashMap;
import java.util.Map;

/** One call of WaterCruise as the tests write it: "cast(0, 1, 60)"; MIN and MAX are the ends of int. */
final class Call {
    private static final Map<String, Call> KNOWN = new HashMap<>();
    private static final Map<String, Method> METHODS = new HashMap<>();

    static {
        for (Method m : WaterCruise.class.getMethods()) {
            if (m.getDeclaringClass() == WaterCruise.class) {
                METHODS.put(m.getName(), m);
            }
        }
    }

    final String text;
    private final Method method;
    private final Object[] arguments;

    private Call(String text) {
        this.text = text;
        int open = text.indexOf('(');
        method = METHODS.get(text.substring(0, open));
        String inside = text.substring(open + 1, text.length() - 1).trim();
        String[] parts = inside.isEmpty() ? new String[0] : inside.split(" *, *");
        Class<?>[] types = method.getParameterTypes();
        if (parts.length != types.length) {
            throw new IllegalArgumentException(text);
        }
        arguments = new Object[parts.length];
        for (int i = 0; i < parts.length; i++) {
            arguments[i] = value(types[i], parts[i]);
        }
    }

    static Call of(String text) {
        return KNOWN.computeIfAbsent(text, Call::new);
    }

    private static Object value(Class<?> type, String part) {
        if (type == boolean.class) {
            return Boolean.valueOf(part);
        }
        if (type == long.class) {
            return Long.valueOf(part);
        }
        return part.equals("MIN") ? Integer.MIN_VALUE : part.equals("MAX") ? Integer.MAX_VALUE : Integer.valueOf(part);
    }

    int on(WaterCruise w) {
        try {
            return (Integer) method.invoke(w, arguments);
        } catch (ReflectiveOperationException e) {
            throw new IllegalStateException(text, e);
        }
    }
}
