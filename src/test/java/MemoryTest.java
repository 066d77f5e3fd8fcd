import java.lang.reflect.Field;
import java.lang.reflect.Modifier;
import java.util.Collections;
import java.util.IdentityHashMap;
import java.util.Set;

/** All memory is rows made once: what an object holds when it is full is what it held when it was new. */
public final class MemoryTest {
    public static void main(String[] args) throws IllegalAccessException {
        ToldRows rows = new ToldRows();
        Set<Object> before = heldBy(rows);
        fill(rows);
        if (before.size() < 2 || !before.equals(heldBy(rows))) {
            System.out.println("a full object does not hold the very rows that it was made with");
            System.exit(1);
        }
    }

    private static void fill(ToldRows rows) {
        for (int i = 0; i < 120; i++) {
            rows.tell(i % 3, i / 24, (long) (i % 12) << 23 | (i % 8) << 20 | i, i);
        }
        for (int i = 0; i < 30; i++) {
            rows.mark(i / 6, 1 + i % 6, i % 6);
        }
        for (int i = 0; i < 15; i++) {
            rows.restart(i / 3);
        }
        for (int desk = 0; desk < 3; desk++) {
            rows.batch(desk, true);
            rows.join(desk, (desk + 1) % 3);
            rows.batch(desk, false);
            rows.gap(desk, 0, 0);
            rows.conflicts(desk);
            rows.same(desk, (desk + 1) % 3);
        }
        rows.settle(0, 0);
    }

    private static Set<Object> heldBy(Object root) throws IllegalAccessException {
        Set<Object> held = Collections.newSetFromMap(new IdentityHashMap<>());
        collect(root, held);
        return held;
    }

    private static void collect(Object object, Set<Object> held) throws IllegalAccessException {
        if (object == null || !held.add(object)) {
            return;
        }
        if (object instanceof Object[] row) {
            for (Object element : row) {
                collect(element, held);
            }
        }
        for (Field field : object.getClass().getDeclaredFields()) {
            if (!field.getType().isPrimitive() && !Modifier.isStatic(field.getModifiers())) {
                field.setAccessible(true);
                collect(field.get(object), held);
            }
        }
    }
}
