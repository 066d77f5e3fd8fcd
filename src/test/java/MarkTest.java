/** Promise 2: mark. */
public final class MarkTest {
    public static void main(String[] args) {
        Runs runs = new Runs();
        runs.run("marks are counted by teller",
                "mark(0, 100, 50) = 1", "mark(0, 101, 50) = 2", "mark(4, 7, 9) = 1", "mark(0, 200, 51) = 3",
                "real(0, 100) = 50", "real(0, 101) = 50", "real(0, 200) = 51", "real(4, 7) = 9", "real(1, 7) = 7");
        runs.run("the edges of the times",
                "mark(1, 0, 0) = 1", "mark(1, 1000000, 1000000) = 2", "real(1, 0) = 0", "real(1, 1000000) = 1000000");
        runs.run("no such teller, whatever the times",
                "mark(5, 1, 1) = index", "mark(-1, 1, 1) = index", "mark(5, -1, -1) = index",
                "mark(2147483647, 1, 1) = index", "mark(-2147483648, 1, 1) = index");
        runs.run("times out of range",
                "mark(0, -1, 0) = range", "mark(0, 1000001, 0) = range", "mark(0, 0, -1) = range",
                "mark(0, 0, 1000001) = range", "mark(0, 2147483647, 0) = range", "mark(0, 0, -2147483648) = range",
                "real(0, 5) = 5", "mark(0, 0, 0) = 1");
        runs.run("own times rise, real ones do not fall, and a refused mark changes nothing",
                "mark(2, 100, 70) = 1", "mark(2, 100, 80) = range", "mark(2, 99, 80) = range",
                "mark(2, 101, 69) = range", "real(2, 101) = 71", "mark(2, 101, 70) = 2", "real(2, 102) = 71");
        runs.run("at most six, and turn goes ahead of range",
                "mark(3, 1, 1) = 1", "mark(3, 2, 2) = 2", "mark(3, 3, 3) = 3", "mark(3, 4, 4) = 4",
                "mark(3, 5, 5) = 5", "mark(3, 6, 60) = 6", "mark(3, 7, 70) = turn", "mark(3, -1, -1) = turn",
                "mark(3, 6, 60) = turn", "real(3, 7) = 61", "mark(5, 7, 70) = index", "mark(2, 7, 70) = 1");
        runs.run("a restart leaves the marks",
                "mark(0, 10, 20) = 1", "restart(0) = 1", "real(0, 10) = 20", "mark(0, 11, 30) = 2");
        runs.end();
    }
}
