/** Promise 13: many. */
public final class ManyTest {
    public static void main(String[] args) {
        Runs runs = new Runs();
        runs.run("seen, moment and not seen yet, by desk",
                "tell(0, 0, 1:1:50, 5) = 0", "tell(0, 0, 1:1:50, 6) = 2", "tell(0, 0, 1:1:50, 6) = 1",
                "many(0, 0) = 2", "many(0, 1) = 2", "many(0, 2) = 0", "batch(0, true) = 2",
                "tell(0, 0, 2:1:50, 5) = 0", "tell(0, 0, 3:1:50, 5) = 0", "tell(0, 0, 3:1:50, 5) = 1",
                "many(0, 0) = 2", "many(0, 1) = 2", "many(0, 2) = 2", "batch(0, false) = 3", "many(0, 0) = 4",
                "many(0, 1) = 3", "many(0, 2) = 0", "batch(0, true) = 3", "tell(0, 0, 4:1:50, 5) = 0",
                "many(0, 0) = 4", "many(0, 2) = 1", "batch(0, false) = 4", "many(0, 0) = 5", "many(0, 1) = 4",
                "many(1, 0) = 0", "many(1, 1) = 0", "many(2, 2) = 0");
        runs.run("no such desk or what",
                "many(3, 0) = index", "many(-1, 0) = index", "many(0, 3) = index", "many(0, -1) = index",
                "many(2147483647, 0) = index", "many(0, -2147483648) = index");
        runs.end();
    }
}
