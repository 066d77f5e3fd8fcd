import java.lang.reflect.InvocationTargetException;
import java.lang.reflect.Method;
import java.util.HashMap;
import java.util.Map;
import java.util.Set;

/** Calls a method of the face by its name, on ToldRows or on the model that has the same face. */
final class Face {
    static final int MOST_CALLS = 512;

    private static final Set<String> REFUSALS = Set.of("index", "turn", "range", "meaning");
    private static final Map<Class<?>, Map<String, Method>> METHODS = new HashMap<>();

    private Face() {
    }

    static Method method(Class<?> of, String name) {
        Method m = METHODS.computeIfAbsent(of, Face::methodsByName).get(name);
        if (m == null) {
            throw new AssertionError("no method " + name);
        }
        return m;
    }

    /** The answer as text; for a throw the document's word for it, by the very class that was thrown. */
    static String answer(Object on, Method m, Object... args) {
        try {
            return String.valueOf(m.invoke(on, args));
        } catch (InvocationTargetException e) {
            return word(e.getCause());
        } catch (IllegalAccessException e) {
            throw new AssertionError(e);
        }
    }

    static boolean isRefusal(String answer) {
        return REFUSALS.contains(answer);
    }

    private static String word(Throwable thrown) {
        Class<?> c = thrown.getClass();
        return c == IndexOutOfBoundsException.class ? "index"
                : c == IllegalStateException.class ? "turn"
                : c == IllegalArgumentException.class ? "range"
                : c == UnsupportedOperationException.class ? "meaning"
                : c.getName();
    }

    /** All names of the face differ, so a name is enough. */
    private static Map<String, Method> methodsByName(Class<?> of) {
        Map<String, Method> methods = new HashMap<>();
        for (Method m : of.getDeclaredMethods()) {
            methods.put(m.getName(), m);
        }
        return methods;
    }
}
