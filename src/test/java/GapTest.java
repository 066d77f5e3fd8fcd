/** Promise 14: gap. */
public final class GapTest {
    public static void main(String[] args) {
        Runs runs = new Runs();
        runs.run("spans below the greatest number",
                "gap(0, 0, 0) = -1", "tell(0, 0, 0:1:1, 1) = 0", "gap(0, 0, 0) = -1", "tell(0, 0, 99:1:1, 1) = 0",
                "gap(0, 0, 0) = 198", "gap(0, 0, 1) = -1", "tell(0, 0, 50:1:1, 1) = 0", "gap(0, 0, 0) = 149",
                "gap(0, 0, 1) = 5198", "gap(0, 0, 2) = -1", "tell(0, 0, 52:1:1, 1) = 0", "gap(0, 0, 1) = 5151",
                "gap(0, 0, 2) = 5398", "tell(0, 0, 51:1:1, 1) = 0", "gap(0, 0, 1) = 5398", "gap(0, 0, 2) = -1",
                "gap(1, 0, 0) = -1", "gap(0, 1, 0) = -1");
        runs.run("what rivals or is not settled is seen, too",
                "tell(0, 0, 1:1:1, 1) = 0", "tell(0, 0, 1:1:1, 2) = 2", "tell(0, 0, 3:1:1, 2) = 0", "gap(0, 0, 0) = 0",
                "gap(0, 0, 1) = 202", "settle(0:0:1, 0) = 1", "gap(0, 0, 1) = 202", "tell(1, 0, 1:1:1, 2) = 0",
                "tell(1, 0, 2:1:1, 2) = 0", "gap(1, 0, 0) = 0", "gap(1, 0, 1) = -1");
        runs.run("nothing is left over from the call before",
                "tell(0, 0, 0:1:1, 1) = 0", "tell(0, 0, 2:1:1, 1) = 0", "tell(1, 0, 1:1:1, 1) = 0",
                "tell(1, 0, 3:1:1, 1) = 0", "gap(0, 0, 0) = 101", "gap(1, 0, 0) = 0", "gap(1, 0, 1) = 202",
                "gap(0, 0, 0) = 101", "gap(0, 0, 1) = -1");
        ends(runs);
        most(runs);
        lives(runs);
        notSeen(runs);
        wrong(runs);
        runs.end();
    }

    private static void ends(Runs runs) {
        runs.run("none below the greatest: nothing seen, 0 alone, 0 and 1",
                "gap(0, 0, 0) = -1", "tell(0, 0, 0:1:1, 1) = 0", "gap(0, 0, 0) = -1", "tell(0, 0, 1:1:1, 1) = 0",
                "gap(0, 0, 0) = -1");
        runs.run("a gap of one number at 0, which is no -1", "tell(0, 1, 1:1:1, 1) = 0", "gap(0, 1, 0) = 0", "gap(0, 1, 1) = -1");
        runs.run("a gap from 0 to below the greatest",
                "tell(0, 2, 2:1:1, 1) = 0", "gap(0, 2, 0) = 1", "tell(0, 2, 5:1:1, 1) = 0", "gap(0, 2, 1) = 304",
                "gap(0, 2, 2) = -1");
        runs.run("the widest gap", "tell(0, 3, 99:1:1, 1) = 0", "gap(0, 3, 0) = 98", "gap(0, 3, 1) = -1");
        runs.run("a gap of one number at 98",
                "tell(0, 3, 99:1:1, 1) = 0", "tell(0, 3, 97:1:1, 1) = 0", "gap(0, 3, 0) = 96", "gap(0, 3, 1) = 9898",
                "tell(0, 3, 98:1:1, 1) = 0", "gap(0, 3, 0) = 96", "gap(0, 3, 1) = -1");
        runs.run("nothing behind the greatest is a gap",
                "tell(0, 4, 0:1:1, 1) = 0", "tell(0, 4, 1:1:1, 1) = 0", "gap(0, 4, 0) = -1", "tell(0, 4, 3:1:1, 1) = 0",
                "gap(0, 4, 0) = 202", "gap(0, 4, 1) = -1", "tell(0, 4, 100:1:1, 1) = range", "gap(0, 4, 1) = -1");
    }

    private static void most(Runs runs) {
        Script odd = new Script();
        for (int number = 1; number < 100; number += 2) {
            odd.then("tell(0, 0, " + number + ":1:1, 1) = 0");
        }
        for (int k = 0; k < 50; k++) {
            odd.then("gap(0, 0, " + k + ") = " + 202 * k);
        }
        runs.run("50 gaps, the most there can be", odd.then("gap(0, 0, 50) = -1", "gap(0, 0, 2147483647) = -1"));
        runs.run("all numbers seen",
                new Script().tellings(0, 100).then("gap(0, 0, 0) = -1", "gap(0, 1, 0) = -1"));
        runs.run("all numbers, told from the greatest down", down());
        runs.run("in a full room",
                new Script().tellings(0, 119).then("tell(0, 1, 99:1:7, 0) = 0", "gap(0, 0, 0) = -1", "gap(0, 1, 0) = 1998",
                        "gap(0, 1, 1) = -1", "gap(0, 4, 0) = -1", "gap(1, 1, 0) = -1", "tell(0, 1, 20:1:7, 0) = meaning",
                        "gap(0, 1, 0) = 1998"));
    }

    private static Script down() {
        Script down = new Script();
        for (int number = 99; number >= 0; number--) {
            down.then("tell(0, 0, " + number + ":1:1, 1) = 0", "gap(0, 0, 0) = " + (number - 1), "gap(0, 0, 1) = -1");
        }
        return down;
    }

    private static void lives(Runs runs) {
        runs.run("of the present life alone",
                "tell(0, 0, 5:1:1, 1) = 0", "gap(0, 0, 0) = 4", "restart(0) = 1", "gap(0, 0, 0) = -1",
                "tell(0, 0, 2:1:1, 1) = 0", "gap(0, 0, 0) = 1", "gap(0, 0, 1) = -1");
        runs.run("of the last life, and a refused restart leaves it",
                "restart(4) = 1", "restart(4) = 2", "tell(0, 4, 9:1:1, 1) = 0", "restart(4) = 3", "gap(0, 4, 0) = -1",
                "tell(0, 4, 3:1:1, 1) = 0", "gap(0, 4, 0) = 2", "restart(4) = turn", "gap(0, 4, 0) = 2", "gap(0, 4, 1) = -1");
        runs.run("of the teller alone",
                "tell(0, 0, 1:1:1, 1) = 0", "tell(0, 1, 3:1:1, 1) = 0", "gap(0, 0, 0) = 0", "gap(0, 0, 1) = -1",
                "gap(0, 1, 0) = 2", "restart(1) = 1", "gap(0, 0, 0) = 0", "gap(0, 1, 0) = -1");
    }

    private static void notSeen(Runs runs) {
        runs.run("what waits is not seen",
                "tell(0, 0, 3:1:1, 1) = 0", "batch(0, true) = 1", "tell(0, 0, 1:1:1, 1) = 0", "tell(0, 0, 5:1:1, 1) = 0",
                "gap(0, 0, 0) = 2", "gap(0, 0, 1) = -1", "batch(0, false) = 2", "gap(0, 0, 0) = 0",
                "gap(0, 0, 1) = 202", "gap(0, 0, 2) = 404");
        runs.run("nothing but what waits",
                "batch(0, true) = 0", "tell(0, 0, 99:1:1, 1) = 0", "gap(0, 0, 0) = -1", "batch(0, false) = 1",
                "gap(0, 0, 0) = 98");
    }

    private static void wrong(Runs runs) {
        runs.run("index: no such desk",
                "tell(0, 0, 1:1:1, 1) = 0", "tell(2, 0, 2:1:1, 1) = 0", "gap(-1, 0, 0) = index", "gap(0, 0, 0) = 0",
                "gap(1, 0, 0) = -1", "gap(2, 0, 0) = 1", "gap(3, 0, 0) = index", "gap(2147483647, 0, 0) = index",
                "gap(-2147483648, 0, 0) = index");
        runs.run("index: no such teller",
                "tell(0, 0, 1:1:1, 1) = 0", "tell(0, 4, 2:1:1, 1) = 0", "gap(0, -1, 0) = index", "gap(0, 0, 0) = 0",
                "gap(0, 4, 0) = 1", "gap(0, 5, 0) = index", "gap(0, 2147483647, 0) = index", "gap(0, -2147483648, 0) = index");
        runs.run("index: k is below 0; -1 when there are not so many",
                "tell(0, 0, 1:1:1, 1) = 0", "gap(0, 0, -1) = index", "gap(0, 0, -2147483648) = index", "gap(0, 0, 0) = 0",
                "gap(0, 0, 1) = -1", "gap(0, 0, 2147483647) = -1", "gap(0, 1, 0) = -1", "gap(0, 1, -1) = index",
                "gap(0, 1, 2147483647) = -1");
    }
}
