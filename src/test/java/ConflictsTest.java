/** Promise 9: conflicts. */
public final class ConflictsTest {
    public static void main(String[] args) {
        Runs runs = new Runs();
        runs.run("one for a teller, life and number, however many rivals",
                "tell(0, 0, 1:1:1, 1) = 0", "conflicts(0) = 0", "tell(0, 0, 1:1:1, 2) = 2", "conflicts(0) = 1",
                "tell(0, 0, 1:1:1, 3) = 2", "conflicts(0) = 1", "tell(0, 0, 2:1:1, 1) = 0", "conflicts(0) = 1",
                "tell(0, 0, 2:2:1, 1) = 2", "conflicts(0) = 2", "tell(0, 3, 1:1:1, 9) = 0", "tell(0, 3, 1:1:2, 9) = 2",
                "conflicts(0) = 3", "restart(0) = 1", "tell(0, 0, 1:1:1, 1) = 0", "conflicts(0) = 3",
                "tell(0, 0, 1:1:1, 2) = 2", "conflicts(0) = 4", "conflicts(1) = 0");
        two(runs);
        settled(runs);
        notSeen(runs);
        full(runs);
        runs.run("index: no such desk",
                "tell(0, 0, 1:1:1, 1) = 0", "tell(0, 0, 1:1:1, 2) = 2", "join(2, 0) = 2", "conflicts(-1) = index",
                "conflicts(0) = 1", "conflicts(1) = 0", "conflicts(2) = 1", "conflicts(3) = index",
                "conflicts(2147483647) = index", "conflicts(-2147483648) = index");
        runs.end();
    }

    private static void two(Runs runs) {
        runs.run("two or more seen tellings: none, one, two, the first again",
                "conflicts(1) = 0", "tell(1, 4, 99:7:1000000, 1) = 0", "conflicts(1) = 0", "tell(1, 4, 99:7:1000000, 1) = 1",
                "conflicts(1) = 0", "tell(1, 4, 99:7:999999, 1) = 2", "conflicts(1) = 1", "tell(1, 4, 99:7:1000000, 1) = 1",
                "conflicts(1) = 1");
        runs.run("one at each of two desks is none, until they are joined",
                "tell(0, 0, 1:1:1, 1) = 0", "tell(1, 0, 1:1:1, 2) = 0", "conflicts(0) = 0", "conflicts(1) = 0",
                "join(0, 1) = 1", "conflicts(0) = 1", "conflicts(1) = 0", "join(1, 0) = 1", "conflicts(1) = 1");
    }

    private static void settled(Runs runs) {
        runs.run("a settled one that was seen ends it, whichever it is",
                "tell(0, 0, 1:1:1, 1) = 0", "tell(0, 0, 1:1:1, 2) = 2", "tell(0, 0, 1:1:1, 3) = 2",
                "settle(0:0:1, 1) = 2", "conflicts(0) = 0", "settle(0:0:1, 2) = 3", "conflicts(0) = 0",
                "settle(0:0:1, 0) = 1", "conflicts(0) = 0", "tell(0, 0, 1:1:1, 4) = 2", "conflicts(0) = 0");
        runs.run("a settled one that was not seen does not end it",
                "tell(1, 0, 1:1:1, 9) = 0", "tell(0, 0, 1:1:1, 1) = 0", "tell(0, 0, 1:1:1, 2) = 2",
                "settle(0:0:1, 0) = 9", "conflicts(0) = 1", "conflicts(1) = 0", "batch(0, true) = 2",
                "tell(0, 0, 1:1:1, 9) = 2", "conflicts(0) = 1", "batch(0, false) = 3", "conflicts(0) = 0");
        runs.run("one that is settled no more may bring it back",
                "tell(0, 0, 1:1:1, 1) = 0", "tell(0, 0, 1:1:1, 2) = 2", "tell(1, 0, 1:1:1, 3) = 0", "settle(0:0:1, 0) = 1",
                "conflicts(0) = 0", "settle(0:0:1, 2) = 3", "conflicts(0) = 1");
    }

    private static void notSeen(Runs runs) {
        runs.run("a rival that was not seen makes none",
                "batch(0, true) = 0", "tell(0, 0, 1:1:1, 1) = 0", "tell(0, 0, 1:1:1, 2) = 2", "conflicts(0) = 0",
                "tell(1, 0, 1:1:1, 1) = 0", "conflicts(1) = 0", "batch(0, false) = 1", "conflicts(0) = 1",
                "conflicts(1) = 0");
        runs.run("one seen and one that waits make none",
                "tell(0, 0, 1:1:1, 1) = 0", "batch(0, true) = 1", "tell(0, 0, 1:1:1, 2) = 2", "conflicts(0) = 0",
                "batch(0, false) = 2", "conflicts(0) = 1");
    }

    private static void full(Runs runs) {
        Script pairs = new Script();
        for (int i = 0; i < 60; i++) {
            pairs.then("tell(0, 0, " + i + ":1:7, 1) = 0", "tell(0, 0, " + i + ":1:7, 2) = 2");
        }
        runs.run("60 of two each, the most there can be",
                pairs.then("conflicts(0) = 60", "tell(0, 0, 0:1:7, 3) = meaning", "settle(0:0:0, 0) = 1", "conflicts(0) = 59",
                        "settle(0:0:59, 1) = 2", "conflicts(0) = 58", "conflicts(1) = 0", "join(1, 0) = 120",
                        "conflicts(1) = 58"));
        runs.run("one of 120",
                new Script().rivals(0, 120).then("conflicts(0) = 1", "settle(0:0:0, 119) = 119", "conflicts(0) = 0"));
        runs.run("none of 120", new Script().tellings(0, 120).then("conflicts(0) = 0"));
    }
}
