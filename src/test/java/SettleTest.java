/** Promise 10: settle. */
public final class SettleTest {
    public static void main(String[] args) {
        Runs runs = new Runs();
        runs.run("the k-th kept one counts, alone, and another can be settled later",
                "tell(0, 2, 2:1:8, 2) = 0", "tell(0, 1, 2:1:1, 77) = 0", "tell(0, 2, 2:1:9, 3) = 2",
                "last(0, 1, 0) = 77", "settle(2:0:2, 0) = 2", "last(0, 1, 0) = 2", "settle(2:0:2, 1) = 3",
                "last(0, 1, 0) = 3", "last(0, 1, 1) = 9", "settle(2:0:2, 0) = 2", "last(0, 1, 0) = 2",
                "settle(2:0:2, 0) = 2", "last(0, 1, 0) = 2");
        runs.run("kept in the order in which they first came to some desk",
                "tell(1, 0, 0:1:1, 30) = 0", "tell(0, 0, 0:1:1, 10) = 0", "tell(2, 0, 0:1:1, 20) = 0",
                "tell(0, 0, 0:1:1, 30) = 2", "settle(0:0:0, 0) = 30", "settle(0:0:0, 1) = 10",
                "settle(0:0:0, 2) = 20", "settle(0:0:0, 3) = index");
        runs.run("of other tellers, lives and numbers nothing is settled",
                "tell(0, 0, 1:1:1, 1) = 0", "tell(0, 0, 1:1:1, 2) = 2", "tell(0, 0, 2:1:1, 3) = 0",
                "tell(0, 0, 2:1:1, 4) = 2", "tell(0, 1, 1:1:1, 5) = 0", "tell(0, 1, 1:1:1, 6) = 2", "restart(0) = 1",
                "tell(0, 0, 1:1:1, 7) = 0", "tell(0, 0, 1:1:1, 8) = 2", "conflicts(0) = 4", "settle(0:0:1, 0) = 1",
                "conflicts(0) = 3", "settle(0:1:1, 1) = 8", "conflicts(0) = 2", "settle(0:0:2, 1) = 4",
                "conflicts(0) = 1", "settle(1:0:1, 0) = 5", "conflicts(0) = 0");
        seenOrNot(runs);
        tellers(runs);
        lives(runs);
        numbers(runs);
        ks(runs);
        refused(runs);
        runs.end();
    }

    private static void seenOrNot(Runs runs) {
        runs.run("what no desk has seen yet is kept, too",
                "batch(0, true) = 0", "tell(0, 0, 0:1:1, 10) = 0", "settle(0:0:0, 0) = 10", "last(0, 1, 0) = turn",
                "batch(0, false) = 1", "last(0, 1, 0) = 10");
        runs.run("rivals of a settled one count nowhere, even where it was not seen",
                "tell(0, 0, 0:1:1, 10) = 0", "tell(1, 0, 0:1:1, 20) = 0", "tell(1, 0, 0:2:1, 21) = 2",
                "tell(2, 0, 0:1:1, 20) = 0", "settle(0:0:0, 0) = 10", "last(0, 1, 0) = 10", "last(1, 1, 0) = turn",
                "last(2, 1, 0) = turn", "known(2, 1, 1) = turn", "join(2, 0) = 1", "last(2, 1, 0) = 10",
                "known(2, 1, 1) = turn", "known(2, 1, 2) = 10");
        runs.run("one that comes after the settling does not count",
                "tell(0, 0, 0:1:1, 10) = 0", "settle(0:0:0, 0) = 10", "tell(0, 0, 0:1:9, 20) = 2",
                "last(0, 1, 0) = 10", "conflicts(0) = 0", "tell(1, 0, 0:1:9, 20) = 0", "last(1, 1, 0) = turn");
        runs.run("the only one of its name can be settled, and counts as before",
                "tell(0, 0, 0:1:1, 10) = 0", "settle(0:0:0, 0) = 10", "last(0, 1, 0) = 10", "conflicts(0) = 0");
    }

    private static void tellers(Runs runs) {
        runs.run("index: no such teller",
                "tell(0, 0, 0:1:1, 10) = 0", "tell(0, 4, 0:1:1, 14) = 0", "settle(0:0:0, 0) = 10", "settle(4:0:0, 0) = 14",
                "settle(5:0:0, 0) = index", "settle(-512, 0) = index", "settle(-1, 0) = index", "settle(2560, 0) = index");
        runs.run("index: teller bits behind the three that tellers have do not wrap around",
                "tell(0, 0, 0:1:1, 10) = 0", "settle(8:0:0, 0) = index", "settle(16:0:0, 0) = index",
                "settle(65536, 0) = index", "settle(1073741824, 0) = index", "settle(-2147483648, 0) = index",
                "settle(2147483647, 0) = index", "settle(0, 0) = 10");
    }

    private static void lives(Runs runs) {
        runs.run("lives 0 .. 3, and index: no such life yet",
                "tell(0, 4, 99:7:0, 1) = 0", "settle(4:0:99, 0) = 1", "settle(4:1:99, 0) = index", "restart(4) = 1",
                "settle(4:1:99, 0) = index", "tell(0, 4, 99:7:0, 2) = 0", "settle(4:1:99, 0) = 2", "restart(4) = 2",
                "tell(0, 4, 99:7:0, 3) = 0", "settle(4:2:99, 0) = 3", "settle(4:3:99, 0) = index", "restart(4) = 3",
                "tell(0, 4, 99:7:0, 4) = 0", "settle(4:3:99, 0) = 4", "settle(2531, 0) = 4", "settle(4:0:99, 0) = 1",
                "settle(5:0:99, 0) = index");
    }

    private static void numbers(Runs runs) {
        Script all = new Script().then("tell(0, 0, 0:1:1, 10) = 0", "tell(0, 0, 99:1:1, 19) = 0", "restart(0) = 1",
                "tell(0, 0, 0:1:1, 20) = 0", "settle(0:0:0, 0) = 10", "settle(0:0:99, 0) = 19", "settle(0:1:0, 0) = 20");
        for (int number = 100; number < 128; number++) {
            all.then("settle(0:0:" + number + ", 0) = index");
        }
        runs.run("index: no such number, and none wraps around into the next life", all.then("settle(128, 0) = 20"));
        runs.run("index: a number of which nothing was told",
                "tell(0, 0, 5:1:1, 10) = 0", "settle(0:0:4, 0) = index", "settle(0:0:6, 0) = index", "settle(0:0:5, 0) = 10");
    }

    private static void ks(Runs runs) {
        runs.run("index: k is below 0, or there are not so many",
                "settle(0:0:0, 0) = index", "tell(0, 0, 0:1:1, 10) = 0", "settle(0:0:0, -1) = index",
                "settle(0:0:0, 0) = 10", "settle(0:0:0, 1) = index", "tell(0, 1, 0:1:1, 99) = 0", "settle(0:0:0, 1) = index",
                "tell(0, 0, 0:1:1, 11) = 2", "settle(0:0:0, 1) = 11", "settle(0:0:0, 2) = index",
                "settle(0:0:0, 2147483647) = index", "settle(0:0:0, -2147483648) = index");
        runs.run("the last of 120",
                new Script().rivals(0, 120).then("settle(0:0:0, 0) = 0", "settle(0:0:0, 119) = 119",
                        "settle(0:0:0, 120) = index", "last(0, 1, 0) = 119", "settle(0:0:0, 118) = 118", "last(0, 1, 0) = 118"));
        runs.run("with 120 names, none has a second one",
                new Script().tellings(0, 120).then("settle(0:0:0, 0) = 0", "settle(1:0:19, 0) = 119",
                        "settle(0:0:0, 1) = index", "settle(1:0:19, 1) = index", "settle(1:0:20, 0) = index"));
    }

    private static void refused(Runs runs) {
        runs.run("a refused settling settles nothing",
                "tell(0, 0, 0:1:1, 10) = 0", "tell(0, 0, 0:1:2, 11) = 2", "settle(0:0:0, 2) = index", "conflicts(0) = 1",
                "settle(0:0:0, -1) = index", "conflicts(0) = 1", "last(0, 1, 0) = turn");
        runs.run("a refused settling leaves the one before",
                "tell(0, 0, 0:1:1, 10) = 0", "tell(0, 0, 0:1:2, 11) = 2", "settle(0:0:0, 0) = 10",
                "settle(0:0:0, 2) = index", "settle(0:0:0, -1) = index", "last(0, 1, 0) = 10", "conflicts(0) = 0");
    }
}
