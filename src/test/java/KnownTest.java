/** Promise 12: known. */
public final class KnownTest {
    public static void main(String[] args) {
        Runs runs = new Runs();
        runs.run("as if only that had been seen",
                "tell(0, 0, 1:1:50, 5) = 0", "tell(0, 1, 2:2:10, 6) = 0", "tell(0, 1, 3:1:60, 7) = 0",
                "tell(0, 1, 4:1:55, 8) = 0", "tell(0, 1, 3:1:60, 9) = 2",
                "known(0, 1, 0) = turn", "known(0, 1, 1) = 5", "known(0, 1, 2) = 5", "known(0, 1, 3) = 7",
                "known(0, 1, 4) = 7", "known(0, 1, 5) = 8", "known(0, 2, 1) = turn", "known(0, 2, 2) = 6",
                "known(0, 2, 5) = 6", "known(0, 1, 6) = range");
        runs.run("settled and marked as now",
                "tell(0, 0, 1:1:50, 5) = 0", "tell(0, 1, 1:1:40, 6) = 0", "tell(0, 1, 1:1:41, 7) = 2",
                "known(0, 1, 1) = 5", "known(0, 1, 2) = 5", "mark(1, 0, 20) = 1", "known(0, 1, 2) = 6",
                "known(0, 1, 3) = 5", "settle(1:0:1, 1) = 7", "known(0, 1, 2) = 5", "known(0, 1, 3) = 7",
                "settle(1:0:1, 0) = 6", "known(0, 1, 2) = 6", "known(0, 1, 3) = 6", "known(0, 1, 1) = 5");
        runs.run("each desk has its own moments",
                "tell(0, 0, 1:1:50, 5) = 0", "tell(0, 0, 2:1:60, 6) = 0", "known(1, 1, 1) = range",
                "tell(1, 0, 2:1:60, 6) = 0", "known(1, 1, 1) = 6", "known(0, 1, 1) = 5", "known(1, 1, 2) = range");
        runs.run("of what is alike in time, as last says",
                "tell(0, 0, 1:1:50, 5) = 0", "tell(0, 0, 0:1:50, 6) = 0", "tell(0, 1, 0:1:50, 7) = 0", "restart(0) = 1",
                "tell(0, 0, 0:1:50, 8) = 0", "known(0, 1, 1) = 5", "known(0, 1, 2) = 5", "known(0, 1, 3) = 7",
                "known(0, 1, 4) = 8");
        moments(runs);
        batches(runs);
        none(runs);
        wrong(runs);
        runs.end();
    }

    private static void moments(Runs runs) {
        for (int desk = 0; desk < 3; desk++) {
            String known = "known(" + desk + ", 1, ";
            runs.run("range: the moment is none yet, or below 0",
                    known + "1) = range", known + "0) = turn", known + "-1) = range", "tell(" + desk + ", 0, 1:1:50, 5) = 0",
                    known + "0) = turn", known + "1) = 5", known + "2) = range", known + "-1) = range",
                    "tell(" + desk + ", 0, 1:1:50, 5) = 1", known + "2) = range", "tell(" + desk + ", 0, 0:1:40, 6) = 0",
                    known + "2) = 5", known + "3) = range", known + "2147483647) = range", known + "-2147483648) = range");
        }
        runs.run("all 120 moments",
                new Script().tellings(0, 120).then("known(0, 1, 0) = turn", "known(0, 1, 1) = 0", "known(0, 1, 2) = 1",
                        "known(0, 1, 100) = 99", "known(0, 1, 101) = 100", "known(0, 1, 119) = 118", "known(0, 1, 120) = 119",
                        "known(0, 1, 121) = range", "known(0, 1, -1) = range", "known(1, 1, 1) = range"));
    }

    private static void batches(Runs runs) {
        runs.run("a batch is one moment",
                "batch(0, true) = 0", "tell(0, 0, 1:1:50, 5) = 0", "tell(0, 0, 2:1:40, 6) = 0", "known(0, 1, 1) = range",
                "known(0, 1, 0) = turn", "batch(0, false) = 1", "known(0, 1, 0) = turn", "known(0, 1, 1) = 5",
                "known(0, 1, 2) = range");
        runs.run("what waits is not known at the present moment",
                "tell(0, 0, 1:1:50, 5) = 0", "batch(0, true) = 1", "tell(0, 0, 2:1:60, 6) = 0", "tell(0, 0, 1:1:50, 7) = 2",
                "known(0, 1, 1) = 5", "known(0, 1, 2) = range", "batch(0, false) = 2", "known(0, 1, 1) = 5",
                "known(0, 1, 2) = 6");
        runs.run("an empty batch is no moment",
                "tell(0, 0, 1:1:50, 5) = 0", "batch(0, true) = 1", "batch(0, false) = 1", "known(0, 1, 2) = range");
    }

    private static void none(Runs runs) {
        runs.run("turn: there was none, for nothing of that key had been seen",
                "tell(0, 0, 1:1:50, 5) = 0", "tell(0, 0, 2:2:60, 6) = 0", "known(0, 2, 0) = turn", "known(0, 2, 1) = turn",
                "known(0, 2, 2) = 6", "known(0, 0, 2) = turn", "known(0, 7, 2) = turn");
        runs.run("turn: there was none that counts, then or now",
                "tell(0, 0, 1:1:50, 5) = 0", "tell(0, 0, 1:1:51, 6) = 2", "known(0, 1, 1) = 5", "known(0, 1, 2) = turn",
                "settle(0:0:1, 1) = 6", "known(0, 1, 1) = turn", "known(0, 1, 2) = 6", "settle(0:0:1, 0) = 5",
                "known(0, 1, 0) = turn", "known(0, 1, 1) = 5", "known(0, 1, 2) = 5");
    }

    private static void wrong(Runs runs) {
        runs.run("index: no such desk",
                "tell(0, 0, 1:1:50, 5) = 0", "tell(2, 0, 1:1:50, 5) = 0", "known(-1, 1, 1) = index", "known(0, 1, 1) = 5",
                "known(2, 1, 1) = 5", "known(3, 1, 1) = index", "known(2147483647, 1, 1) = index",
                "known(-2147483648, 1, 1) = index");
        runs.run("index: no such key",
                "tell(0, 0, 1:0:50, 5) = 0", "tell(0, 0, 2:7:50, 6) = 0", "known(0, -1, 2) = index", "known(0, 0, 2) = 5",
                "known(0, 7, 2) = 6", "known(0, 8, 2) = index", "known(0, 2147483647, 2) = index",
                "known(0, -2147483648, 2) = index");
        runs.run("index ahead of range, range ahead of turn",
                "known(3, 0, -1) = index", "known(-1, 0, 1) = index", "known(0, 8, 1) = index", "known(0, -1, -1) = index",
                "known(3, 0, 0) = index", "known(0, 8, 0) = index", "known(0, 0, -1) = range", "known(0, 0, 1) = range",
                "known(0, 0, 0) = turn");
    }
}
