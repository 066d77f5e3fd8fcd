import java.lang.reflect.Method;

/**
 * Runs of calls on new objects, each written as "call = answer". The answer is a number, true, false,
 * or the document's word for a refusal: index, turn, range, meaning. In tell, number:key:time stands
 * for the long that tells them; in settle, teller:life:number stands for the int that names them.
 */
final class Runs {
    private int calls;
    private int wrong;

    void run(String what, String... lines) {
        ToldRows rows = new ToldRows();
        for (String line : lines) {
            String[] sides = line.split(" = ");
            String got = call(rows, sides[0]);
            calls++;
            if (!got.equals(sides[1])) {
                wrong++;
                System.out.println(what + ": " + sides[0] + " answered " + got + ", due is " + sides[1]);
            }
        }
    }

    void end() {
        if (calls == 0 || wrong != 0) {
            System.out.println(wrong + " of " + calls + " answers are not as due");
            System.exit(1);
        }
    }

    private static String call(ToldRows rows, String call) {
        int open = call.indexOf('(');
        Method m = Face.method(ToldRows.class, call.substring(0, open));
        String[] words = call.substring(open + 1, call.length() - 1).split(", ");
        Class<?>[] types = m.getParameterTypes();
        Object[] args = new Object[types.length];
        for (int i = 0; i < args.length; i++) {
            args[i] = types[i] == boolean.class ? (Object) Boolean.valueOf(words[i])
                    : types[i] == long.class ? (Object) told(words[i])
                    : (Object) name(words[i]);
        }
        return Face.answer(rows, m, args);
    }

    private static long told(String word) {
        String[] parts = word.split(":");
        if (parts.length == 1) {
            return Long.parseLong(word);
        }
        return Long.parseLong(parts[0]) << 23 | Long.parseLong(parts[1]) << 20 | Long.parseLong(parts[2]);
    }

    private static int name(String word) {
        String[] parts = word.split(":");
        if (parts.length == 1) {
            return Integer.parseInt(word);
        }
        return Integer.parseInt(parts[0]) << 9 | Integer.parseInt(parts[1]) << 7 | Integer.parseInt(parts[2]);
    }
}
