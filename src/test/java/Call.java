import java.lang.reflect.Method;
import java.util.ArrayList;
import java.util.List;

/**
 * One call of the face, ready to be made on any object that has it. As text, number:key:time stands in
 * tell for the long that tells them, and teller:life:number in settle for the int that names them.
 */
record Call(String name, List<Object> args) {
    static Call parse(String text) {
        int open = text.indexOf('(');
        String name = text.substring(0, open);
        String[] words = text.substring(open + 1, text.length() - 1).split(", ");
        Class<?>[] types = Face.method(ToldRows.class, name).getParameterTypes();
        List<Object> args = new ArrayList<>();
        for (int i = 0; i < types.length; i++) {
            args.add(types[i] == boolean.class ? (Object) Boolean.valueOf(words[i])
                    : types[i] == long.class ? (Object) told(words[i])
                    : (Object) of(words[i]));
        }
        return new Call(name, args);
    }

    /** The answer as text; for a throw the document's word for it. */
    String answerOf(Object object) {
        Method m = Face.method(object.getClass(), name);
        return Face.answer(object, m, args.toArray());
    }

    static List<String> answersOf(Object object, List<Call> calls) {
        return calls.stream().map(call -> call.answerOf(object)).toList();
    }

    @Override
    public String toString() {
        String listed = args.toString();
        return name + "(" + listed.substring(1, listed.length() - 1) + ")";
    }

    private static long told(String word) {
        String[] parts = word.split(":");
        if (parts.length == 1) {
            return Long.parseLong(word);
        }
        return Long.parseLong(parts[0]) << 23 | Long.parseLong(parts[1]) << 20 | Long.parseLong(parts[2]);
    }

    private static int of(String word) {
        String[] parts = word.split(":");
        if (parts.length == 1) {
            return Integer.parseInt(word);
        }
        return Integer.parseInt(parts[0]) << 9 | Integer.parseInt(parts[1]) << 7 | Integer.parseInt(parts[2]);
    }
}
