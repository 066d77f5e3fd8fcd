/** Promise 9: conflicts. */
public final class ConflictsTest {
    public static void main(String[] args) {
        Runs runs = new Runs();
        runs.run("one for a teller, life and number, however many rivals",
                "tell(0, 0, 1:1:1, 1) = 0", "conflicts(0) = 0", "tell(0, 0, 1:1:1, 2) = 2", "conflicts(0) = 1",
                "tell(0, 0, 1:1:1, 3) = 2", "conflicts(0) = 1", "tell(0, 0, 2:1:1, 1) = 0", "conflicts(0) = 1",
                "tell(0, 0, 2:2:1, 1) = 2", "conflicts(0) = 2", "tell(0, 3, 1:1:1, 9) = 0", "tell(0, 3, 1:1:2, 9) = 2",
                "conflicts(0) = 3", "restart(0) = 1", "tell(0, 0, 1:1:1, 1) = 0", "conflicts(0) = 3",
                "tell(0, 0, 1:1:1, 2) = 2", "conflicts(0) = 4", "conflicts(1) = 0");
        runs.run("a settled one that was seen ends it",
                "tell(0, 0, 1:1:1, 1) = 0", "tell(0, 0, 1:1:1, 2) = 2", "tell(0, 0, 1:1:1, 3) = 2",
                "settle(0:0:1, 1) = 2", "conflicts(0) = 0", "settle(0:0:1, 2) = 3", "conflicts(0) = 0",
                "settle(0:0:1, 0) = 1", "conflicts(0) = 0");
        runs.run("a settled one that was not seen does not end it",
                "tell(1, 0, 1:1:1, 9) = 0", "tell(0, 0, 1:1:1, 1) = 0", "tell(0, 0, 1:1:1, 2) = 2",
                "settle(0:0:1, 0) = 9", "conflicts(0) = 1", "conflicts(1) = 0", "batch(0, true) = 2",
                "tell(0, 0, 1:1:1, 9) = 2", "conflicts(0) = 1", "batch(0, false) = 3", "conflicts(0) = 0");
        runs.run("a rival that was not seen makes none",
                "batch(0, true) = 0", "tell(0, 0, 1:1:1, 1) = 0", "tell(0, 0, 1:1:1, 2) = 2", "conflicts(0) = 0",
                "tell(1, 0, 1:1:1, 1) = 0", "conflicts(1) = 0", "batch(0, false) = 1", "conflicts(0) = 1",
                "conflicts(1) = 0");
        runs.run("no such desk",
                "conflicts(3) = index", "conflicts(-1) = index", "conflicts(2147483647) = index",
                "conflicts(-2147483648) = index");
        runs.end();
    }
}
