/** Promise 1: nothing is told. */
public final class NewObjectTest {
    public static void main(String[] args) {
        Runs runs = new Runs();
        for (int desk = 0; desk < 3; desk++) {
            runs.run("a new desk is empty",
                    "many(" + desk + ", 0) = 0", "many(" + desk + ", 1) = 0", "many(" + desk + ", 2) = 0",
                    "conflicts(" + desk + ") = 0", "batch(" + desk + ", false) = turn",
                    "join(" + desk + ", " + (desk + 1) % 3 + ") = 0",
                    "same(" + desk + ", " + (desk + 1) % 3 + ") = true");
            for (int key = 0; key < 8; key++) {
                runs.run("a new desk has no last telling",
                        "last(" + desk + ", " + key + ", 0) = turn", "known(" + desk + ", " + key + ", 0) = turn",
                        "known(" + desk + ", " + key + ", 1) = range");
            }
        }
        for (int teller = 0; teller < 5; teller++) {
            runs.run("a new teller has no marks, lives and tellings",
                    "real(" + teller + ", 123) = 123", "gap(0, " + teller + ", 0) = -1",
                    "settle(" + teller + ":0:0, 0) = index", "restart(" + teller + ") = 1",
                    "mark(" + teller + ", 0, 0) = 1");
        }
        ToldRows first = new ToldRows();
        first.tell(0, 0, 0L, 1);
        first.mark(0, 0, 9);
        runs.run("objects share nothing", "many(0, 0) = 0", "real(0, 0) = 0", "mark(0, 0, 0) = 1");
        runs.end();
    }
}
