/** Promise 12: known. */
public final class KnownTest {
    public static void main(String[] args) {
        Runs runs = new Runs();
        runs.run("as if only that had been seen",
                "tell(0, 0, 1:1:50, 5) = 0", "tell(0, 1, 2:2:10, 6) = 0", "tell(0, 1, 3:1:60, 7) = 0",
                "tell(0, 1, 4:1:55, 8) = 0", "tell(0, 1, 3:1:60, 9) = 2",
                "known(0, 1, 0) = turn", "known(0, 1, 1) = 5", "known(0, 1, 2) = 5", "known(0, 1, 3) = 7",
                "known(0, 1, 4) = 7", "known(0, 1, 5) = 8", "known(0, 2, 1) = turn", "known(0, 2, 2) = 6",
                "known(0, 2, 5) = 6", "known(0, 1, 6) = range");
        runs.run("settled and marked as now",
                "tell(0, 0, 1:1:50, 5) = 0", "tell(0, 1, 1:1:40, 6) = 0", "tell(0, 1, 1:1:41, 7) = 2",
                "known(0, 1, 1) = 5", "known(0, 1, 2) = 5", "mark(1, 0, 20) = 1", "known(0, 1, 2) = 6",
                "known(0, 1, 3) = 5", "settle(1:0:1, 1) = 7", "known(0, 1, 2) = 5", "known(0, 1, 3) = 7",
                "settle(1:0:1, 0) = 6", "known(0, 1, 2) = 6", "known(0, 1, 3) = 6", "known(0, 1, 1) = 5");
        runs.run("each desk has its own moments",
                "tell(0, 0, 1:1:50, 5) = 0", "tell(0, 0, 2:1:60, 6) = 0", "known(1, 1, 1) = range",
                "tell(1, 0, 2:1:60, 6) = 0", "known(1, 1, 1) = 6", "known(0, 1, 1) = 5", "known(1, 1, 2) = range");
        runs.run("a batch is one moment",
                "batch(0, true) = 0", "tell(0, 0, 1:1:50, 5) = 0", "tell(0, 0, 2:1:40, 6) = 0", "known(0, 1, 1) = range",
                "known(0, 1, 0) = turn", "batch(0, false) = 1", "known(0, 1, 0) = turn", "known(0, 1, 1) = 5",
                "known(0, 1, 2) = range");
        runs.run("index ahead of range, range ahead of turn",
                "known(3, 0, 0) = index", "known(-1, 0, 0) = index", "known(0, 8, 0) = index", "known(0, -1, 0) = index",
                "known(3, 0, -1) = index", "known(0, 8, 1) = index", "known(0, 0, -1) = range", "known(0, 0, 1) = range",
                "known(0, 0, 2147483647) = range", "known(0, 0, -2147483648) = range", "known(0, 0, 0) = turn");
        runs.end();
    }
}
