/** Promise 6: join. */
public final class JoinTest {
    public static void main(String[] args) {
        Runs runs = new Runs();
        runs.run("what is new is counted, and comes a moment each",
                "tell(1, 0, 1:1:10, 5) = 0", "tell(1, 0, 2:1:20, 6) = 0", "tell(0, 0, 2:1:20, 6) = 0",
                "tell(1, 3, 7:2:20, 7) = 0", "join(0, 1) = 2", "many(0, 0) = 3", "many(0, 1) = 3",
                "join(0, 1) = 0", "many(0, 1) = 3", "same(0, 1) = true", "many(1, 0) = 3", "join(1, 0) = 0",
                "known(0, 2, 2) = turn", "known(0, 2, 3) = 7", "last(0, 2, 0) = 7");
        runs.run("in the order in which they are kept",
                "tell(0, 0, 1:1:10, 5) = 0", "tell(1, 0, 2:1:20, 6) = 0", "tell(1, 0, 1:1:10, 5) = 0",
                "join(2, 1) = 2", "known(2, 1, 1) = 5", "known(2, 1, 2) = 6", "known(1, 1, 1) = 6");
        runs.run("rivals are joined, too",
                "tell(0, 0, 1:1:10, 5) = 0", "tell(1, 0, 1:1:10, 6) = 0", "join(0, 1) = 1", "conflicts(0) = 1",
                "conflicts(1) = 0");
        runs.run("tellings of earlier lives are joined, too",
                "tell(0, 0, 1:1:10, 5) = 0", "restart(0) = 1", "tell(0, 0, 1:1:10, 5) = 0", "join(1, 0) = 2",
                "many(1, 1) = 2", "last(1, 1, 4) = 1", "known(1, 1, 1) = 5");
        none(runs);
        all(runs);
        notSeen(runs);
        inBatch(runs);
        wrong(runs);
        runs.end();
    }

    private static void none(Runs runs) {
        runs.run("an empty desk gives nothing to an empty one", "join(0, 1) = 0", "many(0, 0) = 0", "many(0, 1) = 0");
        runs.run("an empty desk gives nothing, and the other desk gets nothing",
                "tell(0, 0, 1:1:10, 5) = 0", "join(0, 1) = 0", "many(0, 1) = 1", "many(1, 0) = 0", "many(1, 1) = 0",
                "join(1, 0) = 1");
        runs.run("nothing is new, and no moment comes",
                "tell(0, 0, 1:1:10, 5) = 0", "tell(1, 0, 1:1:10, 5) = 0", "join(0, 1) = 0", "many(0, 1) = 1",
                "known(0, 1, 2) = range", "join(1, 0) = 0", "many(1, 1) = 1");
    }

    private static void all(Runs runs) {
        runs.run("all 120 are new",
                new Script().tellings(1, 120).then("join(2, 1) = 120", "many(2, 0) = 120", "many(2, 1) = 120",
                        "known(2, 1, 1) = 0", "known(2, 1, 120) = 119", "known(2, 1, 121) = range", "join(2, 1) = 0",
                        "same(1, 2) = true", "many(2, 1) = 120", "join(1, 2) = 0", "join(0, 2) = 120"));
        runs.run("the last of 120 is new",
                new Script().tellings(1, 119).then("join(0, 1) = 119", "tell(1, 4, 99:7:9, 5) = 0", "join(0, 1) = 1",
                        "many(0, 1) = 120", "known(0, 7, 119) = turn", "known(0, 7, 120) = 5"));
    }

    private static void notSeen(Runs runs) {
        runs.run("what the other desk has not seen yet does not come",
                "tell(1, 0, 0:1:9, 4) = 0", "batch(1, true) = 1", "tell(1, 0, 1:1:10, 5) = 0", "join(0, 1) = 1",
                "last(0, 1, 0) = 4", "many(1, 2) = 1", "batch(1, false) = 2", "join(0, 1) = 1", "last(0, 1, 0) = 5");
    }

    private static void inBatch(Runs runs) {
        runs.run("a join in a batch waits for its end",
                "tell(1, 0, 1:1:10, 5) = 0", "tell(1, 0, 2:1:10, 6) = 0", "batch(0, true) = 0",
                "tell(0, 0, 2:1:10, 6) = 0", "join(0, 1) = 1", "join(0, 1) = 0", "many(0, 0) = 0", "many(0, 2) = 2",
                "join(2, 0) = 0", "batch(0, false) = 1", "many(0, 0) = 2", "many(0, 1) = 1", "join(2, 0) = 2",
                "many(2, 1) = 2");
        runs.run("what waits already is not new, and is not seen by a join",
                "batch(0, true) = 0", "tell(0, 0, 1:1:10, 5) = 0", "tell(1, 0, 1:1:10, 5) = 0", "join(0, 1) = 0",
                "many(0, 0) = 0", "many(0, 2) = 1", "last(0, 1, 0) = turn", "batch(0, false) = 1", "many(0, 0) = 1");
        runs.run("both desks in a batch",
                "tell(1, 0, 1:1:10, 5) = 0", "batch(0, true) = 0", "batch(1, true) = 1", "tell(1, 0, 2:1:10, 6) = 0",
                "join(0, 1) = 1", "join(1, 0) = 0", "many(0, 2) = 1", "many(1, 2) = 1", "batch(1, false) = 2",
                "batch(0, false) = 1", "join(0, 1) = 1", "many(0, 1) = 2");
    }

    private static void wrong(Runs runs) {
        for (int desk = 0; desk < 3; desk++) {
            for (int step = 1; step < 3; step++) {
                int other = (desk + step) % 3;
                runs.run("any two desks can be joined",
                        "tell(" + other + ", 0, 1:1:10, 5) = 0", "join(" + desk + ", " + other + ") = 1",
                        "many(" + desk + ", 0) = 1", "many(" + other + ", 0) = 1", "many(" + (3 - desk - other) + ", 0) = 0");
            }
            runs.run("index: the desks are one",
                    "tell(" + desk + ", 0, 1:1:10, 5) = 0", "join(" + desk + ", " + desk + ") = index",
                    "many(" + desk + ", 1) = 1");
        }
        runs.run("index: no such desks",
                "tell(0, 0, 1:1:10, 5) = 0", "tell(2, 0, 2:1:10, 5) = 0", "join(-1, 0) = index", "join(3, 2) = index",
                "join(0, -1) = index", "join(2, 3) = index", "join(2147483647, 0) = index", "join(0, 2147483647) = index",
                "join(-2147483648, 0) = index", "join(0, -2147483648) = index", "join(3, 3) = index", "join(-1, -1) = index",
                "join(-1, 3) = index", "many(0, 1) = 1", "join(0, 2) = 1", "join(2, 0) = 1");
    }
}
