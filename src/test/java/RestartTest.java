/** Promise 5: restart. */
public final class RestartTest {
    public static void main(String[] args) {
        Runs runs = new Runs();
        runs.run("lives go up by teller",
                "restart(0) = 1", "restart(0) = 2", "restart(4) = 1", "restart(0) = 3", "restart(4) = 2",
                "restart(1) = 1", "tell(0, 0, 1:1:1, 5) = 0", "last(0, 1, 4) = 3", "tell(0, 4, 1:2:1, 5) = 0",
                "last(0, 2, 4) = 2");
        runs.run("tellings keep the life in which they came",
                "tell(0, 2, 1:1:10, 5) = 0", "restart(2) = 1", "last(0, 1, 4) = 0", "tell(1, 2, 1:1:10, 5) = 0",
                "last(1, 1, 4) = 1", "same(0, 1) = false", "settle(2:0:1, 0) = 5", "settle(2:0:1, 1) = index",
                "settle(2:1:1, 0) = 5", "settle(2:2:1, 0) = index");
        for (int teller = 0; teller < 5; teller++) {
            lives(runs, teller);
        }
        runs.run("index: no such teller",
                "restart(-1) = index", "restart(0) = 1", "restart(4) = 1", "restart(5) = index",
                "restart(2147483647) = index", "restart(-2147483648) = index", "restart(0) = 2", "restart(4) = 2");
        refused(runs);
        order(runs);
        runs.end();
    }

    private static void lives(Runs runs, int teller) {
        String tell = "tell(0, " + teller + ", ";
        runs.run("0 at first, one more with each restart, turn: it is 3",
                tell + "0:0:7, 5) = 0", "restart(" + teller + ") = 1", tell + "0:1:7, 5) = 0", "restart(" + teller + ") = 2",
                tell + "0:2:7, 5) = 0", "restart(" + teller + ") = 3", tell + "0:3:7, 5) = 0", "restart(" + teller + ") = turn",
                "restart(" + teller + ") = turn", tell + "0:3:7, 5) = 1", tell + "0:4:7, 5) = 2", "last(0, 0, 4) = 0",
                "last(0, 1, 4) = 1", "last(0, 2, 4) = 2", "settle(" + teller + ":3:0, 1) = 5", "last(0, 4, 4) = 3",
                "restart(" + (teller + 1) % 5 + ") = 1");
    }

    private static void refused(Runs runs) {
        runs.run("a refused restart leaves life, marks, tellings and gaps",
                "mark(0, 10, 20) = 1", "restart(0) = 1", "restart(0) = 2", "restart(0) = 3", "tell(0, 0, 2:1:10, 5) = 0",
                "restart(0) = turn", "real(0, 10) = 20", "mark(0, 11, 21) = 2", "gap(0, 0, 0) = 1", "last(0, 1, 4) = 3",
                "last(0, 1, 1) = 20", "tell(0, 0, 2:1:10, 5) = 1");
    }

    private static void order(Runs runs) {
        Script worn = new Script();
        for (int teller = 0; teller < 5; teller++) {
            worn.then("restart(" + teller + ") = 1", "restart(" + teller + ") = 2", "restart(" + teller + ") = 3");
        }
        runs.run("index, when all tellers are in their last life",
                worn.then("restart(0) = turn", "restart(4) = turn", "restart(5) = index", "restart(-1) = index"));
    }
}
