/** Promise 3: real. */
public final class RealTest {
    public static void main(String[] args) {
        Runs runs = new Runs();
        runs.run("at, between, ahead of and behind marks",
                "mark(1, 150, 40) = 1", "real(1, 150) = 40", "real(1, 100) = -10", "real(1, 151) = 41",
                "mark(1, 250, 240) = 2", "real(1, 200) = 140", "real(1, 151) = 42", "real(1, 250) = 240",
                "real(1, 251) = 241", "real(1, 149) = 39", "real(1, 1000000) = 999990", "real(0, 200) = 200");
        for (int teller = 0; teller < 5; teller++) {
            runs.run("without marks t, from 0 to 1,000,000",
                    "real(" + teller + ", 0) = 0", "real(" + teller + ", 1) = 1", "real(" + teller + ", 999999) = 999999",
                    "real(" + teller + ", 1000000) = 1000000", "real(" + teller + ", -1) = range",
                    "real(" + teller + ", 1000001) = range");
        }
        atMarks(runs);
        between(runs);
        outside(runs);
        wrong(runs);
        runs.end();
    }

    private static void atMarks(Runs runs) {
        runs.run("at a mark its real time: the first, the last and those between",
                "mark(3, 10, 10) = 1", "mark(3, 20, 110) = 2", "mark(3, 30, 110) = 3", "mark(3, 40, 115) = 4",
                "mark(3, 50, 215) = 5", "mark(3, 60, 216) = 6", "real(3, 10) = 10", "real(3, 20) = 110",
                "real(3, 30) = 110", "real(3, 40) = 115", "real(3, 50) = 215", "real(3, 60) = 216");
        runs.run("at a mark at the least and the greatest own time",
                "mark(3, 0, 1000000) = 1", "real(3, 0) = 1000000", "mark(3, 1000000, 1000000) = 2",
                "real(3, 1000000) = 1000000");
    }

    private static void between(Runs runs) {
        runs.run("between two marks it is rounded down",
                "mark(0, 10, 100) = 1", "mark(0, 13, 102) = 2", "real(0, 11) = 100", "real(0, 12) = 101",
                "real(0, 13) = 102", "real(0, 14) = 103");
        runs.run("rounded down to the last own time ahead of the next real one",
                "mark(0, 0, 0) = 1", "mark(0, 1000, 1) = 2", "real(0, 1) = 0", "real(0, 999) = 0", "real(0, 1000) = 1");
        runs.run("each span has its own slope",
                "mark(3, 10, 10) = 1", "mark(3, 20, 110) = 2", "mark(3, 30, 110) = 3", "mark(3, 40, 115) = 4",
                "mark(3, 50, 215) = 5", "mark(3, 60, 216) = 6", "real(3, 11) = 20", "real(3, 15) = 60", "real(3, 19) = 100",
                "real(3, 21) = 110", "real(3, 25) = 110", "real(3, 29) = 110", "real(3, 31) = 110", "real(3, 35) = 112",
                "real(3, 39) = 114", "real(3, 41) = 125", "real(3, 49) = 205", "real(3, 51) = 215", "real(3, 59) = 215");
        runs.run("marks next to each other have nothing between them",
                "mark(0, 7, 0) = 1", "mark(0, 8, 1000000) = 2", "real(0, 7) = 0", "real(0, 8) = 1000000",
                "real(0, 6) = -1", "real(0, 9) = 1000001");
        runs.run("the greatest product passes an int",
                "mark(2, 0, 0) = 1", "mark(2, 1000000, 1000000) = 2", "real(2, 999999) = 999999", "real(2, 1) = 1",
                "real(2, 500000) = 500000", "real(2, 2148) = 2148");
        runs.run("a great product is rounded down, too",
                "mark(2, 0, 0) = 1", "mark(2, 1000000, 999999) = 2", "real(2, 999999) = 999998",
                "real(2, 500000) = 499999", "real(2, 1) = 0");
    }

    private static void outside(Runs runs) {
        runs.run("ahead of the first mark and behind the last one: the next own times",
                "mark(0, 100, 70) = 1", "real(0, 99) = 69", "real(0, 100) = 70", "real(0, 101) = 71",
                "mark(0, 200, 90) = 2", "real(0, 99) = 69", "real(0, 201) = 91", "real(0, 101) = 70");
        runs.run("whatever comes of it: behind 1,000,000",
                "mark(0, 0, 1000000) = 1", "real(0, 0) = 1000000", "real(0, 1) = 1000001", "real(0, 1000000) = 2000000");
        runs.run("whatever comes of it: below 0",
                "mark(0, 1000000, 0) = 1", "real(0, 1000000) = 0", "real(0, 999999) = -1", "real(0, 0) = -1000000");
        runs.run("the last of six marks",
                "mark(4, 1, 10) = 1", "mark(4, 2, 20) = 2", "mark(4, 3, 30) = 3", "mark(4, 4, 40) = 4", "mark(4, 5, 50) = 5",
                "mark(4, 6, 999) = 6", "real(4, 7) = 1000", "real(4, 1000000) = 1000993", "real(4, 0) = 9");
    }

    private static void wrong(Runs runs) {
        runs.run("index: no such teller",
                "real(0, 5) = 5", "real(-1, 5) = index", "real(4, 5) = 5", "real(5, 5) = index",
                "real(2147483647, 5) = index", "real(-2147483648, 5) = index");
        runs.run("range: the own time, with marks",
                "mark(0, 0, 3) = 1", "mark(0, 1000000, 9) = 2", "real(0, -1) = range", "real(0, 0) = 3",
                "real(0, 1000000) = 9", "real(0, 1000001) = range", "real(0, 2147483647) = range",
                "real(0, -2147483648) = range");
        runs.run("index ahead of range",
                "real(5, -1) = index", "real(-1, 1000001) = index", "real(-1, -1) = index", "real(5, 1000001) = index");
    }
}
