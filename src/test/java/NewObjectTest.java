/** Promise 1: nothing is told. */
public final class NewObjectTest {
    public static void main(String[] args) {
        Runs runs = new Runs();
        for (int desk = 0; desk < 3; desk++) {
            emptyDesk(runs, desk);
        }
        for (int teller = 0; teller < 5; teller++) {
            newTeller(runs, teller);
            nothingToSettle(runs, teller);
        }
        room(runs);
        apart(runs);
        runs.end();
    }

    private static void emptyDesk(Runs runs, int desk) {
        int next = (desk + 1) % 3;
        runs.run("a new desk is empty, at moment 0, in no batch",
                "many(" + desk + ", 0) = 0", "many(" + desk + ", 1) = 0", "many(" + desk + ", 2) = 0",
                "conflicts(" + desk + ") = 0", "join(" + desk + ", " + next + ") = 0",
                "same(" + desk + ", " + next + ") = true", "batch(" + desk + ", false) = turn",
                "batch(" + desk + ", true) = 0");
        for (int key = 0; key < 8; key++) {
            String of = desk + ", " + key + ", ";
            runs.run("a new desk has no last telling, and no moment but 0",
                    "last(" + of + "0) = turn", "last(" + of + "4) = turn", "known(" + of + "0) = turn",
                    "known(" + of + "1) = range", "known(" + of + "-1) = range");
        }
        for (int teller = 0; teller < 5; teller++) {
            runs.run("a new desk has no gaps", "gap(" + desk + ", " + teller + ", 0) = -1");
        }
    }

    private static void newTeller(Runs runs, int teller) {
        runs.run("a new teller is in life 0",
                "tell(0, " + teller + ", 0:0:0, 1) = 0", "last(0, 0, 4) = 0", "restart(" + teller + ") = 1");
        runs.run("a new teller has no marks",
                "real(" + teller + ", 0) = 0", "real(" + teller + ", 123) = 123",
                "real(" + teller + ", 1000000) = 1000000", "mark(" + teller + ", 0, 0) = 1");
    }

    private static void nothingToSettle(Runs runs, int teller) {
        for (int life = 0; life < 4; life++) {
            runs.run("nothing can be settled yet",
                    "settle(" + teller + ":" + life + ":0, 0) = index", "settle(" + teller + ":" + life + ":99, 0) = index");
        }
    }

    private static void room(Runs runs) {
        runs.run("all 120 tellings have room", new Script().tellings(2, 120).then("tell(2, 4, 0:0:0, 0) = meaning"));
    }

    private static void apart(Runs runs) {
        ToldRows first = new ToldRows();
        first.tell(0, 0, 0L, 1);
        first.mark(0, 0, 9);
        first.restart(0);
        first.batch(1, true);
        runs.run("objects share nothing",
                "many(0, 0) = 0", "real(0, 0) = 0", "mark(0, 0, 0) = 1", "restart(0) = 1", "batch(1, true) = 0");
    }
}
