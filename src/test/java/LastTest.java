/** Promise 11: last. */
public final class LastTest {
    public static void main(String[] args) {
        Runs runs = new Runs();
        runs.run("the greatest real time, not the latest to come",
                "tell(0, 0, 1:1:50, 5) = 0", "tell(0, 1, 2:1:40, 6) = 0", "tell(0, 2, 3:2:90, 7) = 0",
                "last(0, 1, 0) = 5", "last(0, 1, 1) = 50", "last(0, 1, 2) = 0", "last(0, 1, 3) = 1",
                "last(0, 1, 4) = 0", "last(0, 2, 0) = 7", "last(0, 2, 2) = 2", "last(1, 1, 0) = turn",
                "last(0, 0, 0) = turn");
        runs.run("real times are as marks are now",
                "tell(0, 0, 1:1:50, 5) = 0", "tell(0, 1, 2:1:40, 6) = 0", "mark(1, 10, 60) = 1", "last(0, 1, 0) = 6",
                "last(0, 1, 1) = 90", "mark(0, 0, 41) = 1", "last(0, 1, 0) = 5", "last(0, 1, 1) = 91",
                "mark(1, 50, 60) = 2", "last(0, 1, 0) = 5", "mark(0, 50, 41) = 2", "last(0, 1, 0) = 6",
                "last(0, 1, 1) = 60");
        runs.run("real times below 0",
                "mark(0, 1000, 0) = 1", "mark(1, 1000, 1) = 1", "tell(0, 0, 1:1:0, 5) = 0", "last(0, 1, 1) = -1000",
                "tell(0, 1, 1:1:0, 6) = 0", "last(0, 1, 1) = -999", "last(0, 1, 0) = 6");
        runs.run("at one real time the greatest life, then teller, then number",
                "tell(0, 0, 1:1:50, 5) = 0", "tell(0, 0, 3:1:50, 6) = 0", "tell(0, 0, 2:1:50, 7) = 0",
                "last(0, 1, 3) = 3", "tell(0, 3, 0:1:50, 8) = 0", "last(0, 1, 2) = 3", "tell(0, 1, 99:1:50, 9) = 0",
                "last(0, 1, 0) = 8", "restart(0) = 1", "tell(0, 0, 0:1:50, 10) = 0", "last(0, 1, 0) = 10",
                "last(0, 1, 4) = 1", "tell(0, 4, 99:1:50, 11) = 0", "last(0, 1, 0) = 10", "restart(1) = 1",
                "tell(0, 1, 0:1:50, 12) = 0", "last(0, 1, 0) = 12", "last(0, 1, 2) = 1", "restart(0) = 2",
                "tell(0, 0, 0:1:49, 13) = 0", "last(0, 1, 0) = 12", "tell(0, 0, 1:1:51, 14) = 0",
                "last(0, 1, 0) = 14");
        runs.run("of rivals neither counts, whatever their keys",
                "tell(0, 0, 1:1:50, 5) = 0", "tell(0, 1, 1:1:40, 6) = 0", "tell(0, 0, 1:2:50, 5) = 2",
                "last(0, 1, 0) = 6", "last(0, 2, 0) = turn", "settle(0:0:1, 1) = 5", "last(0, 2, 0) = 5",
                "last(0, 1, 0) = 6", "settle(0:0:1, 0) = 5", "last(0, 2, 0) = turn", "last(0, 1, 2) = 0");
        runs.run("a rival that waits, or came to another desk, does not matter yet",
                "tell(0, 0, 1:1:50, 5) = 0", "tell(1, 0, 1:1:50, 6) = 0", "last(0, 1, 0) = 5", "batch(0, true) = 1",
                "tell(0, 0, 1:1:50, 6) = 2", "last(0, 1, 0) = 5", "batch(0, false) = 2", "last(0, 1, 0) = turn",
                "last(1, 1, 0) = 6");
        runs.run("no such desk, key or what, ahead of turn",
                "last(3, 0, 0) = index", "last(-1, 0, 0) = index", "last(0, 8, 0) = index", "last(0, -1, 0) = index",
                "last(0, 0, 5) = index", "last(0, 0, -1) = index", "last(0, 0, 2147483647) = index",
                "last(0, 0, 0) = turn", "tell(0, 0, 1:0:50, 5) = 0", "last(0, 0, 5) = index", "last(0, 0, -1) = index",
                "last(3, 0, 0) = index", "last(0, 7, 4) = turn");
        runs.end();
    }
}
