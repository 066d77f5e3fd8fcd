/** Promise 6: join. */
public final class JoinTest {
    public static void main(String[] args) {
        Runs runs = new Runs();
        runs.run("what is new is counted, and comes a moment each",
                "tell(1, 0, 1:1:10, 5) = 0", "tell(1, 0, 2:1:20, 6) = 0", "tell(0, 0, 2:1:20, 6) = 0",
                "tell(1, 3, 7:2:20, 7) = 0", "join(0, 1) = 2", "many(0, 0) = 3", "many(0, 1) = 3",
                "join(0, 1) = 0", "many(0, 1) = 3", "same(0, 1) = true", "many(1, 0) = 3", "join(1, 0) = 0",
                "known(0, 2, 2) = turn", "known(0, 2, 3) = 7", "last(0, 2, 0) = 7");
        runs.run("the other desk gets nothing",
                "tell(0, 0, 1:1:10, 5) = 0", "join(0, 1) = 0", "many(1, 0) = 0", "join(1, 0) = 1");
        runs.run("in the order in which they are kept",
                "tell(0, 0, 1:1:10, 5) = 0", "tell(1, 0, 2:1:20, 6) = 0", "tell(1, 0, 1:1:10, 5) = 0",
                "join(2, 1) = 2", "known(2, 1, 1) = 5", "known(2, 1, 2) = 6", "known(1, 1, 1) = 6");
        runs.run("rivals are joined, too",
                "tell(0, 0, 1:1:10, 5) = 0", "tell(1, 0, 1:1:10, 6) = 0", "join(0, 1) = 1", "conflicts(0) = 1",
                "conflicts(1) = 0");
        runs.run("what the other desk has not seen yet does not come",
                "batch(1, true) = 0", "tell(1, 0, 1:1:10, 5) = 0", "join(0, 1) = 0", "batch(1, false) = 1",
                "join(0, 1) = 1");
        runs.run("a join in a batch waits for its end",
                "tell(1, 0, 1:1:10, 5) = 0", "tell(1, 0, 2:1:10, 6) = 0", "batch(0, true) = 0",
                "tell(0, 0, 2:1:10, 6) = 0", "join(0, 1) = 1", "join(0, 1) = 0", "many(0, 0) = 0", "many(0, 2) = 2",
                "join(2, 0) = 0", "batch(0, false) = 1", "many(0, 0) = 2", "many(0, 1) = 1", "join(2, 0) = 2",
                "many(2, 1) = 2");
        runs.run("no such desks, or they are one",
                "tell(0, 0, 1:1:10, 5) = 0", "join(0, 0) = index", "join(2, 2) = index", "join(0, 3) = index",
                "join(3, 0) = index", "join(-1, 0) = index", "join(0, -1) = index", "join(3, 3) = index",
                "many(0, 1) = 1");
        runs.end();
    }
}
