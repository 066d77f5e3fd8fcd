/** Promise 7: batch. */
public final class BatchTest {
    public static void main(String[] args) {
        Runs runs = new Runs();
        runs.run("a batch is seen whole, in one moment",
                "tell(0, 0, 0:1:10, 4) = 0", "batch(0, true) = 1", "tell(0, 0, 1:1:20, 5) = 0",
                "tell(0, 0, 3:1:30, 6) = 0", "tell(0, 1, 1:2:10, 7) = 0", "tell(0, 1, 1:2:10, 8) = 2",
                "many(0, 0) = 1", "many(0, 1) = 1", "many(0, 2) = 4", "last(0, 1, 0) = 4", "last(0, 2, 0) = turn",
                "known(0, 1, 2) = range", "conflicts(0) = 0", "gap(0, 0, 0) = -1",
                "batch(0, false) = 2", "many(0, 0) = 5", "many(0, 1) = 2", "many(0, 2) = 0", "last(0, 1, 0) = 6",
                "known(0, 1, 1) = 4", "known(0, 1, 2) = 6", "conflicts(0) = 1", "gap(0, 0, 0) = 202",
                "tell(0, 0, 4:1:40, 9) = 0", "many(0, 1) = 3");
        runs.run("what another desk has seen may still wait here",
                "batch(0, true) = 0", "tell(0, 0, 1:1:1, 1) = 0", "tell(1, 0, 1:1:1, 1) = 0", "many(1, 0) = 1",
                "many(0, 0) = 0", "same(0, 1) = false", "batch(0, false) = 1", "same(0, 1) = true");
        runs.run("batches one behind the other are a moment each",
                "batch(0, true) = 0", "tell(0, 0, 1:1:1, 1) = 0", "batch(0, false) = 1", "batch(0, true) = 1",
                "tell(0, 0, 2:1:2, 2) = 0", "tell(0, 0, 3:1:3, 3) = 0", "batch(0, false) = 2", "many(0, 0) = 3",
                "known(0, 1, 1) = 1", "known(0, 1, 2) = 3");
        howMany(runs);
        nothingCame(runs);
        for (int desk = 0; desk < 3; desk++) {
            turn(runs, desk);
        }
        wrong(runs);
        runs.end();
    }

    private static void howMany(Runs runs) {
        runs.run("a batch of one", "batch(0, true) = 0", "tell(0, 0, 1:1:1, 1) = 0", "many(0, 1) = 0",
                "batch(0, false) = 1", "many(0, 0) = 1", "known(0, 1, 0) = turn", "known(0, 1, 1) = 1");
        runs.run("a batch of 120",
                new Script().then("batch(0, true) = 0").tellings(0, 120).then("many(0, 0) = 0", "many(0, 2) = 120",
                        "many(0, 1) = 0", "last(0, 1, 0) = turn", "tell(0, 4, 0:1:7, 0) = meaning", "known(0, 1, 1) = range",
                        "batch(0, false) = 1", "many(0, 0) = 120", "many(0, 2) = 0", "many(0, 1) = 1", "last(0, 1, 0) = 119",
                        "known(0, 1, 0) = turn", "known(0, 1, 1) = 119", "known(0, 1, 2) = range"));
    }

    private static void nothingCame(Runs runs) {
        runs.run("an empty batch makes no moment",
                "batch(2, true) = 0", "batch(2, false) = 0", "many(2, 1) = 0", "tell(2, 0, 1:1:1, 1) = 0",
                "batch(2, true) = 1", "batch(2, false) = 1", "many(2, 1) = 1", "known(2, 1, 2) = range");
        runs.run("what the desk has already does not come in a batch",
                "tell(2, 0, 1:1:1, 1) = 0", "batch(2, true) = 1", "tell(2, 0, 1:1:1, 1) = 1", "many(2, 2) = 0",
                "batch(2, false) = 1", "many(2, 1) = 1");
        runs.run("what came twice in a batch came once",
                "batch(2, true) = 0", "tell(2, 0, 1:1:1, 1) = 0", "tell(2, 0, 1:1:1, 1) = 1", "many(2, 2) = 1",
                "batch(2, false) = 1", "many(2, 0) = 1");
        runs.run("a join that brings nothing makes no moment",
                "tell(1, 0, 1:1:1, 1) = 0", "join(2, 1) = 1", "batch(2, true) = 1", "join(2, 1) = 0", "batch(2, false) = 1");
        runs.run("what was refused did not come",
                "batch(2, true) = 0", "tell(2, 0, 100:1:1, 1) = range", "tell(2, 5, 1:1:1, 1) = index",
                "join(2, 2) = index", "batch(2, false) = 0", "many(2, 1) = 0");
        runs.run("what came to another desk did not come here",
                "batch(2, true) = 0", "tell(1, 0, 1:1:1, 1) = 0", "batch(2, false) = 0", "many(2, 0) = 0");
    }

    private static void turn(Runs runs, int desk) {
        String on = "batch(" + desk + ", true)";
        String off = "batch(" + desk + ", false)";
        runs.run("turn: it is so, by desk",
                off + " = turn", on + " = 0", on + " = turn", off + " = 0", off + " = turn", on + " = 0",
                "tell(" + desk + ", 0, 1:1:1, 1) = 0", on + " = turn", "many(" + desk + ", 2) = 1", off + " = 1",
                off + " = turn", "many(" + desk + ", 1) = 1", "batch(" + (desk + 1) % 3 + ", false) = turn",
                "batch(" + (desk + 2) % 3 + ", true) = 0", on + " = 1");
    }

    private static void wrong(Runs runs) {
        runs.run("index: no such desk",
                "batch(-1, true) = index", "batch(3, true) = index", "batch(0, true) = 0", "batch(2, true) = 0",
                "batch(-1, false) = index", "batch(3, false) = index", "batch(-2147483648, false) = index",
                "batch(2147483647, true) = index", "batch(0, false) = 0", "batch(2, false) = 0");
        runs.run("index, when all desks are in a batch",
                "batch(0, true) = 0", "batch(1, true) = 0", "batch(2, true) = 0", "batch(3, true) = index",
                "batch(-1, true) = index", "batch(2, true) = turn");
    }
}
