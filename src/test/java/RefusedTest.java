import java.util.ArrayList;
import java.util.List;

/**
 * What is refused changes nothing: each refusal of the document, in states in which all that a call could
 * change has been set. Runs compares, of each, the portraits with and without it.
 */
public final class RefusedTest {
    private static final String[] INDEX = {
        "mark(-1, 50, 50)", "mark(5, 50, 50)", "real(-1, 0)", "real(5, 0)",
        "tell(-1, 3, 9:1:9, 9)", "tell(3, 3, 9:1:9, 9)", "tell(0, -1, 9:1:9, 9)", "tell(0, 5, 9:1:9, 9)",
        "restart(-1)", "restart(5)", "join(-1, 0)", "join(3, 0)", "join(0, -1)", "join(0, 3)", "join(0, 0)",
        "join(1, 1)", "join(2, 2)", "batch(-1, true)", "batch(3, false)", "same(-1, 0)", "same(0, 3)",
        "conflicts(-1)", "conflicts(3)", "settle(-1, 0)", "settle(5:0:0, 0)", "settle(0:0:100, 0)", "settle(0:3:0, 0)",
        "settle(0:0:0, -1)", "settle(0:0:0, 2)", "settle(1:0:0, 2147483647)", "last(-1, 1, 0)", "last(3, 1, 0)",
        "last(0, -1, 0)", "last(0, 8, 0)", "last(0, 1, -1)", "last(0, 1, 5)", "known(-1, 1, 1)", "known(3, 1, 1)",
        "known(0, -1, 1)", "known(0, 8, 1)", "many(-1, 0)", "many(3, 0)", "many(0, -1)", "many(0, 3)",
        "gap(-1, 0, 0)", "gap(3, 0, 0)", "gap(0, -1, 0)", "gap(0, 5, 0)", "gap(0, 0, -1)",
    };
    private static final String[] TURN = {
        "mark(0, 50, 500)", "restart(2)", "batch(0, false)", "batch(1, true)", "batch(2, true)", "last(0, 6, 0)",
        "last(1, 2, 4)", "last(0, 3, 0)", "known(0, 1, 0)", "known(0, 3, 3)",
    };
    private static final String[] RANGE = {
        "mark(1, -1, 50)", "mark(1, 1000001, 50)", "mark(1, 50, -1)", "mark(1, 50, 1000001)", "mark(1, 10, 50)",
        "mark(1, 50, 39)", "real(0, -1)", "real(0, 1000001)", "tell(0, 3, 9:1:1000001, 9)", "tell(1, 3, 100:1:9, 9)",
        "tell(2, 3, 1073741824, 9)", "tell(0, 3, -1, 9)", "known(0, 1, -1)", "known(0, 1, 121)", "known(1, 2, 2147483647)",
    };
    private static final String[] MEANING = {
        "tell(0, 3, 9:1:9, 9)", "tell(1, 3, 9:1:9, 9)", "tell(2, 3, 9:1:9, 9)", "tell(0, 0, 0:3:8, 9)",
    };

    public static void main(String[] args) {
        Runs runs = new Runs();
        List<String> some = rich();
        List<String> full = full();
        refuse(runs, some, INDEX, "index");
        refuse(runs, full, INDEX, "index");
        refuse(runs, some, TURN, "turn");
        refuse(runs, full, TURN, "turn");
        refuse(runs, some, RANGE, "range");
        refuse(runs, full, RANGE, "range");
        refuse(runs, full, MEANING, "meaning");
        runs.end();
    }

    private static void refuse(Runs runs, List<String> state, String[] calls, String due) {
        for (String call : calls) {
            Script script = new Script();
            script.lines.addAll(state);
            runs.run("what is refused changes nothing", script.then(call + " = " + due));
        }
    }

    /** Marks (teller 0 has all), lives (teller 2 has all), a conflict, a settling, and batches with and without tellings. */
    private static List<String> rich() {
        return List.of("mark(0, 1, 10) = 1", "mark(0, 2, 20) = 2", "mark(0, 3, 30) = 3", "mark(0, 5, 50) = 4",
                "mark(0, 7, 70) = 5", "mark(0, 11, 110) = 6", "mark(1, 10, 40) = 1", "restart(2) = 1", "restart(2) = 2",
                "restart(2) = 3", "restart(1) = 1", "tell(0, 0, 0:3:7, 1) = 0", "tell(0, 0, 0:3:8, 2) = 2",
                "tell(0, 2, 5:1:9, 3) = 0", "tell(0, 2, 5:1:10, 4) = 2", "settle(2:3:5, 0) = 3", "tell(2, 1, 3:2:4, 6) = 0",
                "join(0, 2) = 1", "batch(1, true) = 0", "tell(1, 1, 3:2:4, 6) = 0", "tell(1, 4, 2:0:1, 8) = 0",
                "batch(2, true) = 1");
    }

    private static List<String> full() {
        List<String> all = new ArrayList<>(rich());
        for (int i = 0; i < 114; i++) {
            all.add("tell(" + i % 2 + ", 4, " + (10 + i / 2) + ":4:7, " + i % 2 + ") = 0");
        }
        return all;
    }
}
