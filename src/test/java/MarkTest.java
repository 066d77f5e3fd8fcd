/** Promise 2: mark. */
public final class MarkTest {
    public static void main(String[] args) {
        Runs runs = new Runs();
        runs.run("how many the teller has",
                "mark(0, 100, 50) = 1", "mark(0, 101, 50) = 2", "mark(4, 7, 9) = 1", "mark(0, 200, 51) = 3",
                "real(0, 100) = 50", "real(0, 101) = 50", "real(0, 200) = 51", "real(4, 7) = 9", "real(1, 7) = 7");
        runs.run("a restart leaves the marks",
                "mark(0, 10, 20) = 1", "restart(0) = 1", "real(0, 10) = 20", "mark(0, 10, 30) = range",
                "mark(0, 11, 30) = 2");
        runs.run("index: no such teller",
                "mark(0, 1, 1) = 1", "mark(-1, 2, 2) = index", "mark(4, 1, 1) = 1", "mark(5, 2, 2) = index",
                "mark(2147483647, 2, 2) = index", "mark(-2147483648, 2, 2) = index");
        for (int teller = 0; teller < 5; teller++) {
            full(runs, teller);
        }
        times(runs);
        rising(runs);
        notFalling(runs);
        order(runs);
        runs.end();
    }

    private static void full(Runs runs, int teller) {
        String mark = "mark(" + teller + ", ";
        runs.run("turn: there are 6",
                mark + "1, 1) = 1", mark + "2, 2) = 2", mark + "3, 3) = 3", mark + "4, 4) = 4", mark + "5, 5) = 5",
                mark + "6, 60) = 6", mark + "7, 70) = turn", mark + "1000000, 1000000) = turn",
                "real(" + teller + ", 7) = 61", mark + "7, 70) = turn", "mark(" + (teller + 1) % 5 + ", 7, 70) = 1");
        runs.run("what was refused is not one of the 6",
                mark + "1, 1) = 1", mark + "1, 1) = range", mark + "2, 2) = 2", mark + "3, 1) = range", mark + "3, 3) = 3",
                mark + "4, 4) = 4", mark + "-1, 4) = range", mark + "5, 5) = 5", mark + "5, 6) = range", mark + "6, 6) = 6",
                mark + "7, 7) = turn");
    }

    private static void times(Runs runs) {
        runs.run("range: own times, 0 .. 1,000,000",
                "mark(0, -1, 5) = range", "mark(0, -2147483648, 5) = range", "mark(0, 0, 5) = 1",
                "mark(0, 1000001, 5) = range", "mark(0, 2147483647, 5) = range", "mark(0, 1000000, 5) = 2");
        runs.run("range: real times, 0 .. 1,000,000",
                "mark(0, 1, -1) = range", "mark(0, 1, -2147483648) = range", "mark(0, 1, 0) = 1",
                "mark(0, 2, 1000001) = range", "mark(0, 2, 2147483647) = range", "mark(0, 2, 1000000) = 2");
        runs.run("all of both times in two marks",
                "mark(1, 0, 0) = 1", "mark(1, 1000000, 1000000) = 2", "real(1, 0) = 0", "real(1, 1000000) = 1000000");
    }

    private static void rising(Runs runs) {
        runs.run("range: the own one does not rise",
                "mark(2, 100, 70) = 1", "mark(2, 99, 80) = range", "mark(2, 100, 80) = range", "mark(2, 101, 80) = 2",
                "mark(2, 100, 80) = range", "mark(2, 101, 80) = range", "mark(2, 102, 80) = 3");
        runs.run("a mark at the greatest own time is the last one",
                "mark(2, 1000000, 7) = 1", "mark(2, 1000000, 7) = range", "mark(2, 999999, 7) = range",
                "mark(2, 1000001, 7) = range", "mark(2, 0, 7) = range", "mark(2, 1000000, 8) = range");
        runs.run("an own time need not rise above a refused one, or another teller's",
                "mark(2, 10, 10) = 1", "mark(2, 20, 9) = range", "mark(2, 15, 10) = 2", "mark(3, 14, 10) = 1",
                "mark(2, 16, 10) = 3");
    }

    private static void notFalling(Runs runs) {
        runs.run("range: the real one falls",
                "mark(2, 100, 70) = 1", "mark(2, 101, 69) = range", "real(2, 101) = 71", "mark(2, 101, 70) = 2",
                "real(2, 102) = 71", "mark(2, 102, 69) = range", "mark(2, 102, 71) = 3", "mark(2, 103, 70) = range",
                "mark(2, 103, 71) = 4");
        runs.run("at the greatest real time it can only stay",
                "mark(2, 1, 1000000) = 1", "mark(2, 2, 999999) = range", "mark(2, 2, 0) = range",
                "mark(2, 2, 1000000) = 2", "mark(2, 3, 1000001) = range", "mark(2, 3, 1000000) = 3");
        runs.run("at the least real time it can stay",
                "mark(2, 1, 0) = 1", "mark(2, 2, -1) = range", "mark(2, 2, 0) = 2");
        runs.run("a real time need not reach a refused one, or another teller's",
                "mark(2, 10, 10) = 1", "mark(2, 10, 20) = range", "mark(2, 11, 10) = 2", "mark(3, 12, 9) = 1",
                "mark(2, 12, 10) = 3");
    }

    private static void order(Runs runs) {
        runs.run("index ahead of turn, turn ahead of range",
                "mark(3, 1, 1) = 1", "mark(3, 2, 2) = 2", "mark(3, 3, 3) = 3", "mark(3, 4, 4) = 4", "mark(3, 5, 5) = 5",
                "mark(5, -1, 1) = index", "mark(-1, 1, 1000001) = index", "mark(3, 5, 6) = range",
                "mark(3, 6, 6) = 6", "mark(3, -1, 7) = turn", "mark(3, 1000001, 7) = turn", "mark(3, 7, -1) = turn",
                "mark(3, 7, 1000001) = turn", "mark(3, 6, 6) = turn", "mark(3, 7, 5) = turn", "mark(5, 7, 7) = index",
                "mark(-1, -1, -1) = index");
    }
}
