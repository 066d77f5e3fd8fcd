/** Promise 11: last. */
public final class LastTest {
    public static void main(String[] args) {
        Runs runs = new Runs();
        runs.run("the greatest real time, not the latest to come",
                "tell(0, 0, 1:1:50, 5) = 0", "tell(0, 1, 2:1:40, 6) = 0", "tell(0, 2, 3:2:90, 7) = 0",
                "last(0, 1, 0) = 5", "last(0, 1, 1) = 50", "last(0, 1, 2) = 0", "last(0, 1, 3) = 1",
                "last(0, 1, 4) = 0", "last(0, 2, 0) = 7", "last(0, 2, 2) = 2", "last(1, 1, 0) = turn",
                "last(0, 0, 0) = turn");
        runs.run("real times are as marks are now",
                "tell(0, 0, 1:1:50, 5) = 0", "tell(0, 1, 2:1:40, 6) = 0", "mark(1, 10, 60) = 1", "last(0, 1, 0) = 6",
                "last(0, 1, 1) = 90", "mark(0, 0, 41) = 1", "last(0, 1, 0) = 5", "last(0, 1, 1) = 91",
                "mark(1, 50, 60) = 2", "last(0, 1, 0) = 5", "mark(0, 50, 41) = 2", "last(0, 1, 0) = 6",
                "last(0, 1, 1) = 60");
        times(runs);
        ties(runs);
        counts(runs);
        none(runs);
        wrong(runs);
        full(runs);
        runs.end();
    }

    private static void times(Runs runs) {
        runs.run("real times below 0, to the least",
                "mark(0, 1000000, 0) = 1", "mark(1, 1000000, 1) = 1", "tell(0, 0, 1:1:0, 5) = 0", "last(0, 1, 1) = -1000000",
                "last(0, 1, 0) = 5", "tell(0, 1, 1:1:0, 6) = 0", "last(0, 1, 1) = -999999", "last(0, 1, 0) = 6",
                "tell(0, 0, 2:1:1, 7) = 0", "last(0, 1, 0) = 6", "tell(0, 0, 3:1:2, 8) = 0", "last(0, 1, 0) = 8");
        runs.run("real times behind 1,000,000, to the greatest",
                "mark(0, 0, 1000000) = 1", "mark(1, 0, 999999) = 1", "tell(0, 1, 1:1:1000000, 6) = 0",
                "last(0, 1, 1) = 1999999", "tell(0, 0, 1:1:1000000, 5) = 0", "last(0, 1, 1) = 2000000", "last(0, 1, 0) = 5");
        runs.run("one unit of time is enough, either way",
                "tell(0, 0, 1:1:50, 5) = 0", "tell(0, 4, 99:1:49, 6) = 0", "last(0, 1, 0) = 5", "tell(0, 0, 0:1:51, 7) = 0",
                "last(0, 1, 0) = 7", "last(0, 1, 1) = 51");
        runs.run("times that are rounded down to one are one",
                "mark(0, 0, 0) = 1", "mark(0, 1000, 1) = 2", "tell(0, 0, 2:1:1, 5) = 0", "tell(0, 0, 1:1:999, 6) = 0",
                "last(0, 1, 0) = 5", "last(0, 1, 1) = 0", "tell(0, 0, 0:1:1000, 7) = 0", "last(0, 1, 0) = 7");
    }

    private static void ties(Runs runs) {
        runs.run("at one real time the greatest life, then teller, then number",
                "tell(0, 0, 1:1:50, 5) = 0", "tell(0, 0, 3:1:50, 6) = 0", "tell(0, 0, 2:1:50, 7) = 0",
                "last(0, 1, 3) = 3", "tell(0, 3, 0:1:50, 8) = 0", "last(0, 1, 2) = 3", "tell(0, 1, 99:1:50, 9) = 0",
                "last(0, 1, 0) = 8", "restart(0) = 1", "tell(0, 0, 0:1:50, 10) = 0", "last(0, 1, 0) = 10",
                "last(0, 1, 4) = 1", "tell(0, 4, 99:1:50, 11) = 0", "last(0, 1, 0) = 10", "restart(1) = 1",
                "tell(0, 1, 0:1:50, 12) = 0", "last(0, 1, 0) = 12", "last(0, 1, 2) = 1", "restart(0) = 2",
                "tell(0, 0, 0:1:49, 13) = 0", "last(0, 1, 0) = 12", "tell(0, 0, 1:1:51, 14) = 0",
                "last(0, 1, 0) = 14");
        runs.run("the least number of the greatest teller against the greatest number of the next",
                "tell(0, 4, 0:1:50, 5) = 0", "tell(0, 3, 99:1:50, 6) = 0", "last(0, 1, 0) = 5", "tell(0, 4, 1:1:50, 7) = 0",
                "last(0, 1, 0) = 7");
        runs.run("the least of life 3 against the greatest of life 2",
                "restart(0) = 1", "restart(0) = 2", "restart(0) = 3", "restart(4) = 1", "restart(4) = 2",
                "tell(0, 0, 0:1:50, 5) = 0", "tell(0, 4, 99:1:50, 6) = 0", "last(0, 1, 0) = 5", "last(0, 1, 4) = 3",
                "last(0, 1, 2) = 0", "last(0, 1, 3) = 0", "tell(0, 4, 98:1:51, 7) = 0", "last(0, 1, 0) = 7");
        runs.run("at one real time of unlike own times",
                "mark(3, 10, 50) = 1", "mark(1, 90, 50) = 1", "tell(0, 3, 0:1:10, 5) = 0", "tell(0, 1, 99:1:90, 6) = 0",
                "last(0, 1, 1) = 50", "last(0, 1, 0) = 5");
        runs.run("values and the order of coming do not matter",
                "tell(0, 0, 9:1:50, -2147483648) = 0", "tell(0, 0, 8:1:50, 2147483647) = 0", "last(0, 1, 0) = -2147483648",
                "tell(1, 0, 8:1:50, 2147483647) = 0", "tell(1, 0, 9:1:50, -2147483648) = 0",
                "last(1, 1, 0) = -2147483648");
    }

    private static void counts(Runs runs) {
        runs.run("of rivals neither counts, whatever their keys",
                "tell(0, 0, 1:1:50, 5) = 0", "tell(0, 1, 1:1:40, 6) = 0", "tell(0, 0, 1:2:50, 5) = 2",
                "last(0, 1, 0) = 6", "last(0, 2, 0) = turn", "settle(0:0:1, 1) = 5", "last(0, 2, 0) = 5",
                "last(0, 1, 0) = 6", "settle(0:0:1, 0) = 5", "last(0, 2, 0) = turn", "last(0, 1, 2) = 0");
        runs.run("a rival that waits, or came to another desk, does not matter yet",
                "tell(0, 0, 1:1:50, 5) = 0", "tell(1, 0, 1:1:50, 6) = 0", "last(0, 1, 0) = 5", "batch(0, true) = 1",
                "tell(0, 0, 1:1:50, 6) = 2", "last(0, 1, 0) = 5", "batch(0, false) = 2", "last(0, 1, 0) = turn",
                "last(1, 1, 0) = 6");
    }

    private static void none(Runs runs) {
        runs.run("turn: there is none, for nothing was seen",
                "last(0, 1, 0) = turn", "batch(0, true) = 0", "tell(0, 0, 1:1:50, 5) = 0", "last(0, 1, 0) = turn",
                "last(0, 1, 4) = turn", "last(1, 1, 0) = turn", "batch(0, false) = 1", "last(0, 1, 0) = 5");
        runs.run("turn: there is none of that key",
                "tell(0, 0, 1:1:50, 5) = 0", "last(0, 0, 0) = turn", "last(0, 2, 0) = turn", "last(0, 7, 0) = turn",
                "last(0, 1, 0) = 5");
        runs.run("turn: there is none that counts",
                "tell(0, 0, 1:1:50, 5) = 0", "tell(0, 0, 1:1:51, 5) = 2", "last(0, 1, 0) = turn", "last(0, 1, 1) = turn",
                "tell(1, 0, 1:1:52, 5) = 0", "settle(0:0:1, 2) = 5", "last(0, 1, 0) = turn", "last(1, 1, 1) = 52");
    }

    private static void wrong(Runs runs) {
        runs.run("index: no such desk",
                "tell(0, 0, 1:1:50, 5) = 0", "tell(2, 0, 1:1:50, 5) = 0", "last(-1, 1, 0) = index", "last(0, 1, 0) = 5",
                "last(2, 1, 0) = 5", "last(3, 1, 0) = index", "last(2147483647, 1, 0) = index", "last(-2147483648, 1, 0) = index");
        runs.run("index: no such key",
                "tell(0, 0, 1:0:50, 5) = 0", "tell(0, 0, 2:7:50, 6) = 0", "last(0, -1, 0) = index", "last(0, 0, 0) = 5",
                "last(0, 7, 0) = 6", "last(0, 8, 0) = index", "last(0, 2147483647, 0) = index", "last(0, -2147483648, 0) = index");
        runs.run("index: no such what",
                "tell(0, 4, 1:1:50, 5) = 0", "last(0, 1, -1) = index", "last(0, 1, 0) = 5", "last(0, 1, 1) = 50",
                "last(0, 1, 2) = 4", "last(0, 1, 3) = 1", "last(0, 1, 4) = 0", "last(0, 1, 5) = index",
                "last(0, 1, 2147483647) = index", "last(0, 1, -2147483648) = index");
        runs.run("index ahead of turn",
                "last(3, 0, 0) = index", "last(-1, 0, 0) = index", "last(0, 8, 0) = index", "last(0, -1, 0) = index",
                "last(0, 0, 5) = index", "last(0, 0, -1) = index", "last(0, 0, 0) = turn", "last(2, 7, 4) = turn");
    }

    private static void full(Runs runs) {
        runs.run("the last of 120, and the first",
                new Script().tellings(0, 119).then("tell(0, 4, 99:7:1000000, -1) = 0", "last(0, 7, 0) = -1",
                        "last(0, 1, 0) = 118", "last(0, 1, 2) = 1", "last(0, 1, 3) = 18", "mark(0, 7, 9) = 1",
                        "last(0, 1, 0) = 99", "last(0, 1, 1) = 9", "mark(1, 1, 9) = 1", "last(0, 1, 0) = 118"));
        runs.run("one that counts of 120 rivals",
                new Script().rivals(0, 120).then("last(0, 1, 0) = turn", "settle(0:0:0, 119) = 119", "last(0, 1, 0) = 119"));
    }
}
