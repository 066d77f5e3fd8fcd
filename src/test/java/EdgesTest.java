import java.util.ArrayList;
import java.util.List;
import java.util.Set;
import java.util.stream.IntStream;
import java.util.stream.Stream;

/**
 * Every call with every mixture of the edges listed for its arguments (the last that is right and the first that is
 * wrong on each side, and the farthest), in states from empty to full, must be answered as the model
 * answers it; and neither refused calls nor questions may change anything.
 */
public final class EdgesTest {
    private static final int MIN = Integer.MIN_VALUE;
    private static final int MAX = Integer.MAX_VALUE;
    private static final List<Integer> DESKS = List.of(MIN, -1, 0, 2, 3, MAX);
    private static final List<Integer> TELLERS = List.of(MIN, -1, 0, 4, 5, MAX);
    private static final List<Integer> KEYS = List.of(MIN, -1, 0, 1, 7, 8, MAX);
    private static final List<Integer> TIMES = List.of(MIN, -1, 0, 1, 5, 6, 7, 999_999, 1_000_000, 1_000_001, MAX);
    private static final Set<String> CHANGES = Set.of("mark", "tell", "restart", "join", "batch", "settle");
    /** So few that a portrait has room behind them and the state's calls. */
    private static final int MOST_IN_A_ROW = 150;

    private final List<Call> edges = new ArrayList<>();
    private int wrong;

    public static void main(String[] args) {
        EdgesTest test = new EdgesTest();
        test.addEdges();
        test.look("empty", List.of());
        test.look("some", some());
        test.look("waiting", waiting());
        test.look("worn", worn());
        test.look("full", full());
        test.look("full of rivals", fullOfRivals());
        if (test.wrong != 0) {
            System.out.println(test.wrong + " calls at edges are not as due");
            System.exit(1);
        }
    }

    private void look(String name, List<Call> state) {
        List<Call> changeless = new ArrayList<>();
        ToldRows rows = null;
        Model model = null;
        for (Call edge : edges) {
            if (rows == null) {
                rows = new ToldRows();
                model = new Model();
                Call.answersOf(rows, state);
                Call.answersOf(model, state);
            }
            String due = edge.answerOf(model);
            String got = edge.answerOf(rows);
            if (!got.equals(due)) {
                tellWrong(name + ": " + edge + " answered " + got + ", due is " + due);
            }
            if (CHANGES.contains(edge.name()) && !Face.isRefusal(due)) {
                rows = null;
            } else {
                changeless.add(edge);
            }
            if (changeless.size() == MOST_IN_A_ROW) {
                changedNothing(name, state, changeless);
                changeless.clear();
                rows = null;
            }
        }
        changedNothing(name, state, changeless);
    }

    private void changedNothing(String name, List<Call> state, List<Call> changeless) {
        if (!changeless.isEmpty() && !Portrait.isSame(state, changeless)) {
            tellWrong(name + ": one of the refused calls and questions from " + changeless.get(0) + " to "
                    + changeless.get(changeless.size() - 1) + " changed later answers");
        }
    }

    private void tellWrong(String text) {
        wrong++;
        System.out.println(text);
    }

    private void addEdges() {
        addMixtures("mark", List.of(TELLERS, TIMES, TIMES));
        addMixtures("real", List.of(TELLERS, TIMES));
        addMixtures("tell", List.of(List.of(-1, 0, 2, 3), List.of(-1, 0, 1, 4, 5), tolds(), List.of(MIN, -1, 0, MAX)));
        addMixtures("restart", List.of(TELLERS));
        addMixtures("join", List.of(DESKS, DESKS));
        addMixtures("batch", List.of(DESKS, List.of(true, false)));
        addMixtures("same", List.of(DESKS, DESKS));
        addMixtures("conflicts", List.of(DESKS));
        addMixtures("settle", List.of(names(), List.of(MIN, -1, 0, 1, 2, 119, 120, MAX)));
        addMixtures("last", List.of(DESKS, KEYS, List.of(MIN, -1, 0, 1, 2, 3, 4, 5, MAX)));
        addMixtures("known", List.of(DESKS, KEYS, List.of(MIN, -1, 0, 1, 2, 3, 4, 119, 120, 121, MAX)));
        addMixtures("many", List.of(DESKS, List.of(MIN, -1, 0, 1, 2, 3, MAX)));
        addMixtures("gap", List.of(DESKS, TELLERS, List.of(MIN, -1, 0, 1, 49, 50, MAX)));
    }

    private void addMixtures(String name, List<List<?>> choices) {
        List<List<Object>> mixtures = List.of(List.of());
        for (List<?> choice : choices) {
            List<List<Object>> longer = new ArrayList<>();
            for (List<Object> begun : mixtures) {
                for (Object next : choice) {
                    longer.add(Stream.concat(begun.stream(), Stream.of(next)).toList());
                }
            }
            mixtures = longer;
        }
        mixtures.forEach(args -> edges.add(new Call(name, args)));
    }

    private static List<Long> tolds() {
        List<Long> all = new ArrayList<>();
        for (long other : new long[] {0, 1L << 30, 1L << 31, 1L << 32, 1L << 63}) {
            for (long number : new long[] {0, 99, 100, 127}) {
                for (long key : new long[] {0, 1, 7}) {
                    for (long time : new long[] {0, 7, 1_000_000, 1_000_001, 1_048_575}) {
                        all.add(other | number << 23 | key << 20 | time);
                    }
                }
            }
        }
        return all;
    }

    private static List<Integer> names() {
        List<Integer> all = new ArrayList<>();
        for (int teller : new int[] {-1, 0, 1, 4, 5, 8, 1 << 21}) {
            for (int life = 0; life < 4; life++) {
                for (int number : new int[] {0, 1, 99, 100, 127}) {
                    all.add(teller << 9 | life << 7 | number);
                }
            }
        }
        all.addAll(List.of(MIN, MAX));
        return all;
    }

    private static List<Call> some() {
        return calls("mark(0, 5, 5)", "mark(0, 6, 7)", "mark(4, 6, 9)", "tell(0, 0, 0:1:7, 0)", "tell(0, 0, 0:1:7, -1)",
                "tell(0, 0, 99:7:7, 3)", "tell(2, 4, 1:1:7, 4)", "tell(2, 0, 0:1:7, 0)", "restart(4)",
                "tell(2, 4, 99:0:1000000, 5)", "settle(0:0:0, 1)");
    }

    private static List<Call> waiting() {
        return calls("mark(0, 1, 2)", "tell(0, 0, 0:1:7, 0)", "tell(2, 0, 99:7:7, 1)", "batch(0, true)", "batch(1, true)",
                "batch(2, true)", "tell(0, 0, 1:1:7, 0)", "tell(0, 0, 0:1:7, -1)", "tell(2, 4, 1:0:7, 3)",
                "tell(1, 4, 99:0:7, 3)", "settle(0:0:0, 0)");
    }

    /** All tellers have all their marks and lives. */
    private static List<Call> worn() {
        List<Call> all = new ArrayList<>();
        for (int teller = 0; teller < 5; teller++) {
            for (int mark = 1; mark <= 6; mark++) {
                all.addAll(calls("mark(" + teller + ", " + mark + ", " + 10 * mark + ")"));
            }
            for (int life = 1; life <= 3; life++) {
                all.addAll(calls("tell(0, " + teller + ", 1:1:7, " + life + ")", "restart(" + teller + ")"));
            }
        }
        return all;
    }

    /** The last of 120 wait in a batch. */
    private static List<Call> full() {
        List<Call> all = new ArrayList<>(calls("mark(0, 3, 4)", "mark(1, 7, 5)", "restart(1)"));
        for (int i = 0; i < 120; i++) {
            if (i == 115) {
                all.addAll(calls("batch(0, true)"));
            }
            all.addAll(calls("tell(0, " + i / 100 + ", " + i % 100 + ":1:7, " + i + ")"));
        }
        return all;
    }

    private static List<Call> fullOfRivals() {
        return calls(IntStream.range(0, 120).mapToObj(i -> "tell(" + i % 3 + ", 0, 0:1:7, " + i + ")")
                .toArray(String[]::new));
    }

    private static List<Call> calls(String... texts) {
        return Stream.of(texts).map(Call::parse).toList();
    }
}
