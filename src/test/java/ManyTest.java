/** Promise 13: many. */
public final class ManyTest {
    public static void main(String[] args) {
        Runs runs = new Runs();
        runs.run("seen, moment and not seen yet, by desk",
                "tell(0, 0, 1:1:50, 5) = 0", "tell(0, 0, 1:1:50, 6) = 2", "tell(0, 0, 1:1:50, 6) = 1",
                "many(0, 0) = 2", "many(0, 1) = 2", "many(0, 2) = 0", "batch(0, true) = 2",
                "tell(0, 0, 2:1:50, 5) = 0", "tell(0, 0, 3:1:50, 5) = 0", "tell(0, 0, 3:1:50, 5) = 1",
                "many(0, 0) = 2", "many(0, 1) = 2", "many(0, 2) = 2", "batch(0, false) = 3", "many(0, 0) = 4",
                "many(0, 1) = 3", "many(0, 2) = 0", "batch(0, true) = 3", "tell(0, 0, 4:1:50, 5) = 0",
                "many(0, 0) = 4", "many(0, 2) = 1", "batch(0, false) = 4", "many(0, 0) = 5", "many(0, 1) = 4",
                "many(1, 0) = 0", "many(1, 1) = 0", "many(2, 2) = 0");
        runs.run("what other desks have, seen or not, is none of a desk's",
                "tell(0, 0, 1:1:50, 5) = 0", "batch(1, true) = 0", "tell(1, 0, 2:1:50, 5) = 0", "many(2, 0) = 0",
                "many(2, 1) = 0", "many(2, 2) = 0", "many(0, 2) = 0", "many(1, 0) = 0", "many(1, 2) = 1");
        for (int desk = 0; desk < 3; desk++) {
            full(runs, desk);
        }
        runs.run("index: no such desk",
                "tell(0, 0, 1:1:50, 5) = 0", "tell(2, 0, 1:1:50, 5) = 0", "many(-1, 0) = index", "many(0, 0) = 1",
                "many(1, 0) = 0", "many(2, 0) = 1", "many(3, 0) = index", "many(2147483647, 0) = index",
                "many(-2147483648, 0) = index");
        runs.run("index: no such what",
                "tell(0, 0, 1:1:50, 5) = 0", "many(0, -1) = index", "many(0, 0) = 1", "many(0, 1) = 1", "many(0, 2) = 0",
                "many(0, 3) = index", "many(0, 2147483647) = index", "many(0, -2147483648) = index", "many(3, 3) = index");
        runs.end();
    }

    private static void full(Runs runs, int desk) {
        String many = "many(" + desk + ", ";
        runs.run("none, and 120 one by one",
                new Script().then(many + "0) = 0", many + "1) = 0", many + "2) = 0").tellings(desk, 120)
                        .then(many + "0) = 120", many + "1) = 120", many + "2) = 0"));
        runs.run("120 in a batch",
                new Script().then("batch(" + desk + ", true) = 0").tellings(desk, 120).then(many + "0) = 0", many + "1) = 0",
                        many + "2) = 120", "batch(" + desk + ", false) = 1", many + "0) = 120", many + "1) = 1",
                        many + "2) = 0"));
    }
}
