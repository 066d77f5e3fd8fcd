/** Promise 5: restart. */
public final class RestartTest {
    public static void main(String[] args) {
        Runs runs = new Runs();
        runs.run("lives go up to 3, by teller",
                "restart(0) = 1", "restart(0) = 2", "restart(4) = 1", "restart(0) = 3", "restart(0) = turn",
                "restart(0) = turn", "restart(4) = 2", "restart(1) = 1",
                "tell(0, 0, 1:1:1, 5) = 0", "last(0, 1, 4) = 3", "tell(0, 4, 1:2:1, 5) = 0", "last(0, 2, 4) = 2");
        runs.run("no such teller",
                "restart(5) = index", "restart(-1) = index", "restart(2147483647) = index",
                "restart(-2147483648) = index", "restart(0) = 1");
        runs.run("tellings keep the life in which they came",
                "tell(0, 2, 1:1:10, 5) = 0", "restart(2) = 1", "last(0, 1, 4) = 0", "tell(1, 2, 1:1:10, 5) = 0",
                "last(1, 1, 4) = 1", "same(0, 1) = false", "settle(2:0:1, 0) = 5", "settle(2:0:1, 1) = index",
                "settle(2:1:1, 0) = 5", "settle(2:2:1, 0) = index");
        runs.end();
    }
}
