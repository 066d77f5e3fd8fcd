import java.lang.reflect.InvocationTargetException;
import java.lang.reflect.Method;

/** Calls a method of the face by its name, on ToldRows or on the model that has the same face. */
final class Face {
    private Face() {
    }

    /** All names of the face differ, so a name is enough. */
    static Method method(Class<?> of, String name) {
        for (Method m : of.getDeclaredMethods()) {
            if (m.getName().equals(name)) {
                return m;
            }
        }
        throw new AssertionError("no method " + name);
    }

    /** The answer as text; for a throw the document's word for it, by the very class that was thrown. */
    static String answer(Object on, Method m, Object... args) {
        try {
            return String.valueOf(m.invoke(on, args));
        } catch (InvocationTargetException e) {
            return word(e.getCause());
        } catch (IllegalAccessException e) {
            throw new AssertionError(e);
        }
    }

    static String word(Throwable thrown) {
        Class<?> c = thrown.getClass();
        return c == IndexOutOfBoundsException.class ? "index"
                : c == IllegalStateException.class ? "turn"
                : c == IllegalArgumentException.class ? "range"
                : c == UnsupportedOperationException.class ? "meaning"
                : c.getName();
    }
}
