/** Promise 7: batch. */
public final class BatchTest {
    public static void main(String[] args) {
        Runs runs = new Runs();
        runs.run("a batch is seen whole, in one moment",
                "tell(0, 0, 0:1:10, 4) = 0", "batch(0, true) = 1", "tell(0, 0, 1:1:20, 5) = 0",
                "tell(0, 0, 3:1:30, 6) = 0", "tell(0, 1, 1:2:10, 7) = 0", "tell(0, 1, 1:2:10, 8) = 2",
                "many(0, 0) = 1", "many(0, 1) = 1", "many(0, 2) = 4", "last(0, 1, 0) = 4", "last(0, 2, 0) = turn",
                "known(0, 1, 2) = range", "conflicts(0) = 0", "gap(0, 0, 0) = -1",
                "batch(0, false) = 2", "many(0, 0) = 5", "many(0, 1) = 2", "many(0, 2) = 0", "last(0, 1, 0) = 6",
                "known(0, 1, 1) = 4", "known(0, 1, 2) = 6", "conflicts(0) = 1", "gap(0, 0, 0) = 202",
                "tell(0, 0, 4:1:40, 9) = 0", "many(0, 1) = 3");
        runs.run("an empty batch makes no moment",
                "batch(2, true) = 0", "batch(2, false) = 0", "tell(2, 0, 1:1:1, 1) = 0", "batch(2, true) = 1",
                "tell(2, 0, 1:1:1, 1) = 1", "batch(2, false) = 1", "many(2, 1) = 1");
        runs.run("out of turn, by desk",
                "batch(0, false) = turn", "batch(0, true) = 0", "batch(0, true) = turn", "batch(1, false) = turn",
                "batch(1, true) = 0", "tell(0, 0, 1:1:1, 1) = 0", "batch(0, true) = turn", "many(0, 2) = 1",
                "batch(0, false) = 1", "batch(0, false) = turn", "many(0, 1) = 1", "batch(1, false) = 0");
        runs.run("what another desk has seen may still wait here",
                "batch(0, true) = 0", "tell(0, 0, 1:1:1, 1) = 0", "tell(1, 0, 1:1:1, 1) = 0", "many(1, 0) = 1",
                "many(0, 0) = 0", "same(0, 1) = false", "batch(0, false) = 1", "same(0, 1) = true");
        runs.run("no such desk",
                "batch(3, true) = index", "batch(-1, true) = index", "batch(3, false) = index",
                "batch(-2147483648, false) = index", "batch(2147483647, true) = index");
        runs.end();
    }
}
