/** Promise 14: gap. */
public final class GapTest {
    public static void main(String[] args) {
        Runs runs = new Runs();
        runs.run("spans below the greatest number",
                "gap(0, 0, 0) = -1", "tell(0, 0, 0:1:1, 1) = 0", "gap(0, 0, 0) = -1", "tell(0, 0, 99:1:1, 1) = 0",
                "gap(0, 0, 0) = 198", "gap(0, 0, 1) = -1", "tell(0, 0, 50:1:1, 1) = 0", "gap(0, 0, 0) = 149",
                "gap(0, 0, 1) = 5198", "gap(0, 0, 2) = -1", "tell(0, 0, 52:1:1, 1) = 0", "gap(0, 0, 1) = 5151",
                "gap(0, 0, 2) = 5398", "tell(0, 0, 51:1:1, 1) = 0", "gap(0, 0, 1) = 5398", "gap(0, 0, 2) = -1",
                "gap(0, 0, 2147483647) = -1", "gap(1, 0, 0) = -1", "gap(0, 1, 0) = -1");
        runs.run("a gap begins at 0",
                "tell(0, 1, 1:1:1, 1) = 0", "gap(0, 1, 0) = 0", "tell(0, 2, 5:1:1, 1) = 0", "gap(0, 2, 0) = 4",
                "gap(0, 2, 1) = -1", "gap(0, 0, 0) = -1", "tell(0, 3, 99:1:1, 1) = 0", "gap(0, 3, 0) = 98");
        runs.run("of the present life alone",
                "tell(0, 0, 5:1:1, 1) = 0", "gap(0, 0, 0) = 4", "restart(0) = 1", "gap(0, 0, 0) = -1",
                "tell(0, 0, 2:1:1, 1) = 0", "gap(0, 0, 0) = 1", "gap(0, 0, 1) = -1");
        runs.run("what rivals or is not settled is seen, too",
                "tell(0, 0, 1:1:1, 1) = 0", "tell(0, 0, 1:1:1, 2) = 2", "tell(0, 0, 3:1:1, 2) = 0", "gap(0, 0, 0) = 0",
                "gap(0, 0, 1) = 202", "settle(0:0:1, 0) = 1", "gap(0, 0, 1) = 202", "tell(1, 0, 1:1:1, 2) = 0",
                "tell(1, 0, 2:1:1, 2) = 0", "gap(1, 0, 0) = 0", "gap(1, 0, 1) = -1");
        runs.run("what waits is not seen",
                "tell(0, 0, 3:1:1, 1) = 0", "batch(0, true) = 1", "tell(0, 0, 1:1:1, 1) = 0", "tell(0, 0, 5:1:1, 1) = 0",
                "gap(0, 0, 0) = 2", "gap(0, 0, 1) = -1", "batch(0, false) = 2", "gap(0, 0, 0) = 0",
                "gap(0, 0, 1) = 202", "gap(0, 0, 2) = 404");
        runs.run("nothing is left over from the call before",
                "tell(0, 0, 0:1:1, 1) = 0", "tell(0, 0, 2:1:1, 1) = 0", "tell(1, 0, 1:1:1, 1) = 0",
                "tell(1, 0, 3:1:1, 1) = 0", "gap(0, 0, 0) = 101", "gap(1, 0, 0) = 0", "gap(1, 0, 1) = 202",
                "gap(0, 0, 0) = 101", "gap(0, 0, 1) = -1");
        runs.run("no such desk or teller, or k is below 0",
                "gap(3, 0, 0) = index", "gap(-1, 0, 0) = index", "gap(0, 5, 0) = index", "gap(0, -1, 0) = index",
                "gap(0, 0, -1) = index", "gap(0, 0, -2147483648) = index", "gap(2147483647, 0, 0) = index");
        runs.end();
    }
}
