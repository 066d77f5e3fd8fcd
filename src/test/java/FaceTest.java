import java.lang.reflect.Constructor;
import java.lang.reflect.Field;
import java.lang.reflect.Method;
import java.lang.reflect.Modifier;
import java.util.Set;
import java.util.TreeSet;

/** The class has the document's public face, and nothing that can be seen beside it. */
public final class FaceTest {
    private static final String INDEX = "java.lang.IndexOutOfBoundsException";
    private static final String TURN = "java.lang.IllegalStateException";
    private static final String RANGE = "java.lang.IllegalArgumentException";
    private static final String MEANING = "java.lang.UnsupportedOperationException";

    private static final Set<String> DUE = Set.of(
            "public ToldRows()",
            "public int ToldRows.mark(int,int,int) throws " + INDEX + "," + TURN + "," + RANGE,
            "public int ToldRows.real(int,int) throws " + INDEX + "," + RANGE,
            "public int ToldRows.tell(int,int,long,int) throws " + INDEX + "," + RANGE + "," + MEANING,
            "public int ToldRows.restart(int) throws " + INDEX + "," + TURN,
            "public int ToldRows.join(int,int) throws " + INDEX,
            "public int ToldRows.batch(int,boolean) throws " + INDEX + "," + TURN,
            "public boolean ToldRows.same(int,int) throws " + INDEX,
            "public int ToldRows.conflicts(int) throws " + INDEX,
            "public int ToldRows.settle(int,int) throws " + INDEX,
            "public int ToldRows.last(int,int,int) throws " + INDEX + "," + TURN,
            "public int ToldRows.known(int,int,int) throws " + INDEX + "," + TURN + "," + RANGE,
            "public int ToldRows.many(int,int) throws " + INDEX,
            "public int ToldRows.gap(int,int,int) throws " + INDEX);

    public static void main(String[] args) {
        Set<String> has = new TreeSet<>();
        for (Constructor<?> c : ToldRows.class.getDeclaredConstructors()) {
            addSeen(has, c.getModifiers(), c.toString());
        }
        for (Method m : ToldRows.class.getDeclaredMethods()) {
            addSeen(has, m.getModifiers(), m.toString());
        }
        for (Field f : ToldRows.class.getDeclaredFields()) {
            addSeen(has, f.getModifiers(), f.toString());
        }
        boolean right = has.equals(DUE) && hasFinalStatics(ToldRows.class) && isFinalAndPublic();
        for (Class<?> inside : ToldRows.class.getDeclaredClasses()) {
            right &= hasFinalStatics(inside) && isHiddenAndStatic(inside);
        }
        if (!right) {
            System.out.println("the face is " + has + ", due is " + new TreeSet<>(DUE));
            System.exit(1);
        }
    }

    private static void addSeen(Set<String> has, int modifiers, String member) {
        if (!Modifier.isPrivate(modifiers)) {
            has.add(member);
        }
    }

    private static boolean isFinalAndPublic() {
        int modifiers = ToldRows.class.getModifiers();
        return Modifier.isPublic(modifiers) && Modifier.isFinal(modifiers);
    }

    private static boolean isHiddenAndStatic(Class<?> inside) {
        int modifiers = inside.getModifiers();
        return Modifier.isStatic(modifiers) && !Modifier.isPublic(modifiers) && !Modifier.isProtected(modifiers);
    }

    private static boolean hasFinalStatics(Class<?> of) {
        for (Field f : of.getDeclaredFields()) {
            if (Modifier.isStatic(f.getModifiers()) && !Modifier.isFinal(f.getModifiers())) {
                System.out.println("static state: " + f);
                return false;
            }
        }
        return true;
    }
}
