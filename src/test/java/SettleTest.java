/** Promise 10: settle. */
public final class SettleTest {
    public static void main(String[] args) {
        Runs runs = new Runs();
        runs.run("the k-th kept one counts, alone, and another can be settled later",
                "tell(0, 2, 2:1:8, 2) = 0", "tell(0, 1, 2:1:1, 77) = 0", "tell(0, 2, 2:1:9, 3) = 2",
                "last(0, 1, 0) = 77", "settle(2:0:2, 0) = 2", "last(0, 1, 0) = 2", "settle(2:0:2, 1) = 3",
                "last(0, 1, 0) = 3", "last(0, 1, 1) = 9", "settle(2:0:2, 0) = 2", "last(0, 1, 0) = 2",
                "settle(2:0:2, 2) = index", "last(0, 1, 0) = 2");
        runs.run("kept in the order in which they first came to some desk",
                "tell(1, 0, 0:1:1, 30) = 0", "tell(0, 0, 0:1:1, 10) = 0", "tell(2, 0, 0:1:1, 20) = 0",
                "tell(0, 0, 0:1:1, 30) = 2", "settle(0:0:0, 0) = 30", "settle(0:0:0, 1) = 10",
                "settle(0:0:0, 2) = 20", "settle(0:0:0, 3) = index");
        runs.run("what no desk has seen yet is kept, too",
                "batch(0, true) = 0", "tell(0, 0, 0:1:1, 10) = 0", "settle(0:0:0, 0) = 10", "last(0, 1, 0) = turn",
                "batch(0, false) = 1", "last(0, 1, 0) = 10");
        runs.run("rivals of a settled one count nowhere, even where it was not seen",
                "tell(0, 0, 0:1:1, 10) = 0", "tell(1, 0, 0:1:1, 20) = 0", "tell(1, 0, 0:2:1, 21) = 2",
                "tell(2, 0, 0:1:1, 20) = 0", "settle(0:0:0, 0) = 10", "last(0, 1, 0) = 10", "last(1, 1, 0) = turn",
                "last(2, 1, 0) = turn", "known(2, 1, 1) = turn", "join(2, 0) = 1", "last(2, 1, 0) = 10",
                "known(2, 1, 1) = turn", "known(2, 1, 2) = 10");
        runs.run("one that comes after the settling does not count",
                "tell(0, 0, 0:1:1, 10) = 0", "settle(0:0:0, 0) = 10", "tell(0, 0, 0:1:9, 20) = 2",
                "last(0, 1, 0) = 10", "conflicts(0) = 0", "tell(1, 0, 0:1:9, 20) = 0", "last(1, 1, 0) = turn");
        runs.run("of other tellers, lives and numbers nothing is settled",
                "tell(0, 0, 1:1:1, 1) = 0", "tell(0, 0, 1:1:1, 2) = 2", "tell(0, 0, 2:1:1, 3) = 0",
                "tell(0, 0, 2:1:1, 4) = 2", "tell(0, 1, 1:1:1, 5) = 0", "tell(0, 1, 1:1:1, 6) = 2", "restart(0) = 1",
                "tell(0, 0, 1:1:1, 7) = 0", "tell(0, 0, 1:1:1, 8) = 2", "conflicts(0) = 4", "settle(0:0:1, 0) = 1",
                "conflicts(0) = 3", "settle(0:1:1, 1) = 8", "conflicts(0) = 2", "settle(0:0:2, 1) = 4",
                "conflicts(0) = 1", "settle(1:0:1, 0) = 5", "conflicts(0) = 0");
        runs.run("the edges of the name",
                "restart(4) = 1", "restart(4) = 2", "restart(4) = 3", "tell(0, 4, 99:7:0, -1) = 0",
                "settle(4:3:99, 0) = -1", "settle(2531, 0) = -1");
        runs.run("no such teller, life, number or k",
                "tell(0, 0, 0:1:1, 10) = 0", "settle(-1, 0) = index", "settle(-2147483648, 0) = index",
                "settle(5:0:0, 0) = index", "settle(2560, 0) = index", "settle(2147483647, 0) = index",
                "settle(0:0:100, 0) = index", "settle(0:0:127, 0) = index", "settle(0:1:0, 0) = index",
                "settle(0:0:0, -1) = index", "settle(0:0:0, 1) = index", "settle(0:0:0, 2147483647) = index",
                "settle(0:0:0, -2147483648) = index", "tell(0, 0, 0:1:1, 11) = 2", "conflicts(0) = 1");
        runs.end();
    }
}
