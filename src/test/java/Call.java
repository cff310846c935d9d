import java.lang.reflect.Method;
import java.util.HashMap;
import java.util.Map;

/** One call of WaterCruise as the tests write it: "cast(0, 1, 60)"; MIN and MAX are the ends of int. */
final class Call {
    private static final Map<String, Call> KNOWN = new HashMap<>();
    private static final Map<String, Method> METHODS = methodsOf(WaterCruise.class);
    private static final Map<String, Method> SECOND = methodsOf(SecondReading.class);

    final String text;
    private final Method method;
    private final Object[] arguments;

    private Call(String text) {
        this.text = text;
        int open = text.indexOf('(');
        method = METHODS.get(text.substring(0, open));
        String inside = text.substring(open + 1, text.length() - 1).trim();
        String[] parts = inside.isEmpty() ? new String[0] : inside.split(" *, *");
        Class<?>[] types = method.getParameterTypes();
        if (parts.length != types.length) {
            throw new IllegalArgumentException(text);
        }
        arguments = new Object[parts.length];
        for (int i = 0; i < parts.length; i++) {
            arguments[i] = value(types[i], parts[i]);
        }
    }

    private static Map<String, Method> methodsOf(Class<?> c) {
        Map<String, Method> methods = new HashMap<>();
        for (Method m : c.getMethods()) {
            if (m.getDeclaringClass() == c) {
                methods.put(m.getName(), m);
            }
        }
        return methods;
    }

    /** One that won't be asked for again. */
    static Call make(String text) {
        return new Call(text);
    }

    static Call of(String text) {
        return KNOWN.computeIfAbsent(text, Call::new);
    }

    private static Object value(Class<?> type, String part) {
        if (type == boolean.class) {
            return Boolean.valueOf(part);
        }
        if (type == long.class) {
            return Long.decode(part.replaceAll("L$", ""));
        }
        return part.equals("MIN") ? Integer.MIN_VALUE : part.equals("MAX") ? Integer.MAX_VALUE : Integer.valueOf(part);
    }

    int on(WaterCruise w) {
        return answer(method, w);
    }

    int on(SecondReading second) {
        return answer(SECOND.get(method.getName()), second);
    }

    private int answer(Method m, Object object) {
        try {
            return (Integer) m.invoke(object, arguments);
        } catch (ReflectiveOperationException e) {
            throw new IllegalStateException(text, e);
        }
    }
}
