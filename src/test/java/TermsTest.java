/** What the document's terms say of no single call: how long an object is used, moments, the order kept, settling. */
public final class TermsTest {
    public static void main(String[] args) {
        Runs runs = new Runs();
        calls(runs);
        for (int desk = 0; desk < 3; desk++) {
            moments(runs, desk);
        }
        order(runs);
        settled(runs);
        runs.end();
    }

    private static void calls(Runs runs) {
        Script asked = new Script().tellings(0, 120);
        while (asked.lines.size() < 509) {
            asked.then("last(0, 1, 0) = 119");
        }
        runs.run("an object is used for 512 calls", asked.then("mark(0, 7, 8) = 1", "join(1, 0) = 120", "last(1, 1, 0) = 99"));
    }

    private static void moments(Runs runs, int desk) {
        int other = (desk + 1) % 3;
        String moment = "many(" + desk + ", 1) = ";
        runs.run("moments: 0 at first, one more with each telling that is new, and with nothing else",
                moment + "0", "tell(" + desk + ", 0, 1:1:1, 1) = 0", moment + "1", "tell(" + desk + ", 0, 1:1:1, 1) = 1",
                moment + "1", "tell(" + desk + ", 0, 1:1:1, 2) = 2", moment + "2", "tell(" + other + ", 0, 2:1:1, 1) = 0",
                moment + "2", "join(" + desk + ", " + other + ") = 1", moment + "3", "join(" + other + ", " + desk + ") = 2",
                moment + "3", "settle(0:0:1, 0) = 1", "mark(0, 1, 1) = 1", "restart(0) = 1", moment + "3",
                "tell(" + desk + ", 0, 1:1:1, 1) = 0", moment + "4");
    }

    private static void order(Runs runs) {
        runs.run("kept in the order in which they came, though what came first is seen last",
                "batch(0, true) = 0", "tell(0, 0, 1:1:1, 5) = 0", "tell(1, 0, 1:1:1, 6) = 0", "batch(0, false) = 1",
                "settle(0:0:1, 0) = 5", "settle(0:0:1, 1) = 6");
        runs.run("what comes again, to whichever desk, stays where it is kept",
                "tell(0, 0, 1:1:1, 5) = 0", "tell(0, 0, 1:1:1, 6) = 2", "tell(1, 0, 1:1:1, 6) = 0", "tell(1, 0, 1:1:1, 5) = 2",
                "tell(0, 0, 1:1:1, 5) = 1", "settle(0:0:1, 0) = 5", "settle(0:0:1, 1) = 6", "settle(0:0:1, 2) = index");
    }

    private static void settled(Runs runs) {
        runs.run("one telling can be settled, for all desks",
                "tell(0, 0, 1:1:1, 5) = 0", "tell(0, 0, 1:1:2, 6) = 2", "join(1, 0) = 2", "join(2, 0) = 2",
                "settle(0:0:1, 0) = 5", "last(0, 1, 0) = 5", "last(1, 1, 0) = 5", "last(2, 1, 0) = 5", "conflicts(2) = 0",
                "settle(0:0:1, 1) = 6", "last(0, 1, 0) = 6", "last(1, 1, 0) = 6", "last(2, 1, 0) = 6", "last(2, 1, 1) = 2");
        runs.run("it counts though its rivals are seen, and they do not, seen or not",
                "tell(0, 0, 1:1:1, 5) = 0", "tell(1, 0, 1:1:2, 6) = 0", "last(0, 1, 0) = 5", "last(1, 1, 0) = 6",
                "settle(0:0:1, 0) = 5", "last(0, 1, 0) = 5", "last(1, 1, 0) = turn", "join(0, 1) = 1", "last(0, 1, 0) = 5",
                "conflicts(0) = 0", "conflicts(1) = 0");
        runs.run("a telling without rivals counts, settled or not",
                "tell(0, 0, 1:1:1, 5) = 0", "tell(0, 0, 2:2:1, 6) = 0", "settle(0:0:2, 0) = 6", "last(0, 1, 0) = 5",
                "last(0, 2, 0) = 6");
    }
}
