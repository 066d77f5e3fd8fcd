/** Promise 3: real. */
public final class RealTest {
    public static void main(String[] args) {
        Runs runs = new Runs();
        runs.run("without marks the own time",
                "real(0, 0) = 0", "real(4, 777) = 777", "real(2, 1000000) = 1000000");
        runs.run("at, between, ahead of and behind marks",
                "mark(1, 150, 40) = 1", "real(1, 150) = 40", "real(1, 100) = -10", "real(1, 151) = 41",
                "mark(1, 250, 240) = 2", "real(1, 200) = 140", "real(1, 151) = 42", "real(1, 250) = 240",
                "real(1, 251) = 241", "real(1, 149) = 39", "real(1, 1000000) = 999990", "real(0, 200) = 200");
        runs.run("between marks it is rounded down",
                "mark(0, 10, 100) = 1", "mark(0, 13, 102) = 2", "real(0, 11) = 100", "real(0, 12) = 101",
                "real(0, 13) = 102", "real(0, 14) = 103");
        runs.run("each span has its own slope",
                "mark(3, 10, 10) = 1", "mark(3, 20, 110) = 2", "mark(3, 30, 110) = 3", "mark(3, 40, 115) = 4",
                "mark(3, 50, 215) = 5", "mark(3, 60, 216) = 6",
                "real(3, 15) = 60", "real(3, 25) = 110", "real(3, 35) = 112", "real(3, 41) = 125",
                "real(3, 59) = 215", "real(3, 60) = 216", "real(3, 61) = 217", "real(3, 9) = 9",
                "real(3, 20) = 110", "real(3, 30) = 110", "real(3, 40) = 115", "real(3, 50) = 215");
        runs.run("products that pass an int",
                "mark(2, 0, 0) = 1", "mark(2, 1000000, 999999) = 2", "real(2, 999999) = 999998",
                "real(2, 500000) = 499999", "real(2, 1) = 0");
        runs.run("far behind the last mark", "mark(0, 0, 1000000) = 1", "real(0, 1000000) = 2000000");
        runs.run("far ahead of the first mark", "mark(0, 1000000, 0) = 1", "real(0, 0) = -1000000");
        runs.run("wrong inputs",
                "real(5, 0) = index", "real(-1, 0) = index", "real(5, -1) = index", "real(-1, 1000001) = index",
                "real(0, -1) = range", "real(0, 1000001) = range", "real(4, -2147483648) = range",
                "real(4, 2147483647) = range");
        runs.end();
    }
}
