import java.lang.reflect.Method;
import java.util.Arrays;
import java.util.List;
import java.util.Set;
import java.util.TreeSet;

/** Long made-up runs of calls, the same each time, must be answered as the model answers them. */
public final class ModelTest {
    private static final int RUNS = 600;
    private static final int CALLS = 512;
    private static final int[] WRONG = {-1, 3, 5, 8, 100, 1_000_001, Integer.MIN_VALUE, Integer.MAX_VALUE};
    /** Each name stands as often as it is to be called, for its part. */
    private static final List<String> NAMES = List.of("tell", "tell", "tell", "tell", "tell", "tell", "tell", "tell",
            "mark", "real", "restart", "join", "batch", "batch", "same", "conflicts", "conflicts", "settle", "settle",
            "last", "last", "last", "known", "known", "known", "many", "gap", "gap");
    /** All refusals that the document knows, and answers that only rare states give. */
    private static final Set<String> DUE = Set.of("mark index", "mark turn", "mark range", "mark 6", "real index",
            "real range", "tell 0", "tell 1", "tell 2", "tell index", "tell range", "tell meaning", "restart index",
            "restart turn", "restart 3", "join index", "join 0", "join 5", "batch index", "batch turn", "same index",
            "same true", "same false", "conflicts index", "conflicts 0", "conflicts 3", "settle index", "last index",
            "last turn", "known index", "known turn", "known range", "many index", "many 120", "gap index", "gap -1");

    private final Set<String> met = new TreeSet<>();
    private long seed = 20261115;
    private int tellers;
    private int numbers;
    private int keys;
    private int times;
    private int values;
    private int wrongOneIn;

    public static void main(String[] args) {
        ModelTest test = new ModelTest();
        for (int run = 0; run < RUNS; run++) {
            test.run(run);
        }
        Set<String> unmet = new TreeSet<>(DUE);
        unmet.removeAll(test.met);
        if (!unmet.isEmpty()) {
            System.out.println("the runs never came to " + unmet);
            System.exit(1);
        }
    }

    private void run(int run) {
        tellers = 1 + below(5);
        numbers = pick(2, 5, 20, 100);
        keys = pick(1, 2, 8);
        times = pick(3, 30, 1_000_001);
        values = pick(1, 2, 3, 1000);
        wrongOneIn = pick(20, 100, 1000);
        ToldRows rows = new ToldRows();
        Model model = new Model();
        for (int call = 0; call < CALLS; call++) {
            String name = NAMES.get(below(NAMES.size()));
            Object[] args = arguments(name, call);
            String got = Face.answer(rows, method(ToldRows.class, name), args);
            String due = Face.answer(model, method(Model.class, name), args);
            met.add(name + " " + due);
            if (!got.equals(due)) {
                System.out.println("run " + run + ", call " + call + ": " + name + Arrays.toString(args) + " answered "
                        + got + ", due is " + due);
                System.exit(1);
            }
        }
    }

    private static Method method(Class<?> of, String name) {
        return Face.method(of, name);
    }

    private Object[] arguments(String name, int call) {
        switch (name) {
            case "mark":
                return new Object[] {teller(), mostly(rising(call)), mostly(rising(call))};
            case "real":
                return new Object[] {teller(), mostly(below(times))};
            case "tell":
                return new Object[] {desk(), teller(), told(), value()};
            case "restart":
                // Rare while the run is young, so that lives have time to fill.
                return new Object[] {below(CALLS) < call / 2 ? teller() : Integer.valueOf(9)};
            case "batch":
                return new Object[] {desk(), below(2) == 0};
            case "conflicts":
                return new Object[] {desk()};
            case "settle":
                return new Object[] {mostly(teller() * 512 + below(4) / 2 * below(4) * 128 + below(numbers)), below(3)};
            case "last":
                return new Object[] {desk(), key(), mostly(below(5))};
            case "known":
                return new Object[] {desk(), key(), mostly(below(2 + call / 8))};
            case "many":
                return new Object[] {desk(), mostly(below(3))};
            case "gap":
                return new Object[] {desk(), teller(), mostly(below(4))};
            default:
                return new Object[] {desk(), desk()};
        }
    }

    private long told() {
        long told = (((long) mostly(below(numbers)) << 3) | key()) << 20 | mostly(below(times));
        return below(wrongOneIn) == 0 ? told | 1L << (30 + below(34)) : told;
    }

    private int rising(int call) {
        return (int) Math.min(1_000_000L, (long) times * call / CALLS + below(Math.max(2, times / 20)));
    }

    private int desk() {
        return mostly(below(3));
    }

    private int teller() {
        return mostly(below(tellers));
    }

    private int key() {
        return mostly(below(keys));
    }

    private int value() {
        return values == 1000 ? (int) next() : below(values);
    }

    private int mostly(int right) {
        return below(wrongOneIn) == 0 ? pick(WRONG) : right;
    }

    private int pick(int... of) {
        return of[below(of.length)];
    }

    private int below(int bound) {
        return (int) Math.floorMod(next() >> 16, (long) bound);
    }

    /** Steps of a fixed row of numbers (Knuth's), so that each run of the test is the same. */
    private long next() {
        seed = seed * 6364136223846793005L + 1442695040888963407L;
        return seed;
    }
}
