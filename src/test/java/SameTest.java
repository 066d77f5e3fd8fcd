/** Promise 8: same. */
public final class SameTest {
    public static void main(String[] args) {
        Runs runs = new Runs();
        runs.run("the same by what was seen, not by its order or moments",
                "same(0, 1) = true", "tell(0, 0, 1:1:1, 1) = 0", "same(0, 1) = false", "same(1, 0) = false",
                "same(1, 2) = true", "tell(1, 0, 2:1:1, 1) = 0", "same(0, 1) = false", "tell(1, 0, 1:1:1, 1) = 0",
                "same(0, 1) = false", "tell(0, 0, 2:1:1, 1) = 0", "same(0, 1) = true", "same(1, 0) = true",
                "batch(2, true) = 0", "join(2, 0) = 2", "same(2, 0) = false", "batch(2, false) = 1",
                "same(2, 0) = true");
        apart(runs);
        notSeen(runs);
        full(runs);
        wrong(runs);
        runs.end();
    }

    private static void apart(Runs runs) {
        runs.run("rivals are not the same: by value, key or time",
                "tell(0, 0, 1:1:1, 1) = 0", "tell(1, 0, 1:1:1, 2) = 0", "same(0, 1) = false", "tell(2, 0, 1:2:1, 1) = 0",
                "same(0, 2) = false", "same(1, 2) = false", "settle(0:0:1, 0) = 1", "same(0, 1) = false");
        runs.run("a rival's time alone", "tell(0, 0, 1:1:1, 1) = 0", "tell(1, 0, 1:1:2, 1) = 0", "same(0, 1) = false");
        runs.run("another teller, number or life",
                "tell(0, 0, 1:1:1, 1) = 0", "tell(1, 1, 1:1:1, 1) = 0", "tell(2, 0, 2:1:1, 1) = 0", "same(0, 1) = false",
                "same(0, 2) = false", "same(1, 2) = false");
        runs.run("another life", "tell(0, 0, 1:1:1, 1) = 0", "restart(0) = 1", "tell(1, 0, 1:1:1, 1) = 0", "same(0, 1) = false");
    }

    private static void notSeen(Runs runs) {
        runs.run("what waits is not seen",
                "batch(0, true) = 0", "tell(0, 0, 1:1:1, 1) = 0", "same(0, 1) = true", "tell(1, 0, 1:1:1, 1) = 0",
                "same(0, 1) = false", "same(1, 0) = false", "same(0, 2) = true", "batch(0, false) = 1", "same(0, 1) = true",
                "same(0, 2) = false");
        runs.run("what waits at both",
                "batch(0, true) = 0", "batch(1, true) = 0", "tell(0, 0, 1:1:1, 1) = 0", "tell(1, 0, 2:1:1, 1) = 0",
                "same(0, 1) = true", "batch(0, false) = 1", "same(0, 1) = false");
    }

    private static void full(Runs runs) {
        runs.run("with 120, the last one alone is apart",
                new Script().tellings(0, 119).then("join(1, 0) = 119", "same(0, 1) = true", "tell(0, 4, 99:7:7, 5) = 0",
                        "same(0, 1) = false", "same(1, 0) = false", "tell(1, 4, 99:7:7, 5) = 0", "same(0, 1) = true"));
        runs.run("with 120, the first one alone is apart",
                new Script().then("batch(0, true) = 0", "tell(0, 4, 99:7:7, 5) = 0").tellings(1, 119).then("join(0, 1) = 119",
                        "batch(0, false) = 1", "same(0, 1) = false", "same(1, 0) = false", "join(1, 0) = 1",
                        "same(0, 1) = true"));
    }

    private static void wrong(Runs runs) {
        runs.run("a desk is the same as itself: empty, not, or with what waits",
                "same(0, 0) = true", "same(1, 1) = true", "same(2, 2) = true", "tell(2, 0, 1:1:1, 1) = 0", "same(2, 2) = true",
                "batch(0, true) = 0", "tell(0, 0, 1:1:1, 1) = 0", "same(0, 0) = true");
        runs.run("index: no such desks",
                "same(-1, 0) = index", "same(3, 0) = index", "same(0, -1) = index", "same(0, 3) = index", "same(0, 2) = true",
                "same(2, 0) = true", "same(3, 3) = index", "same(-1, -1) = index", "same(-1, 3) = index",
                "same(2147483647, 0) = index", "same(0, -2147483648) = index");
    }
}
