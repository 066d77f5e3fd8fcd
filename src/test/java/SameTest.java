/** Promise 8: same. */
public final class SameTest {
    public static void main(String[] args) {
        Runs runs = new Runs();
        runs.run("the same by what was seen, not by its order or moments",
                "same(0, 1) = true", "tell(0, 0, 1:1:1, 1) = 0", "same(0, 1) = false", "same(1, 0) = false",
                "same(1, 2) = true", "tell(1, 0, 2:1:1, 1) = 0", "same(0, 1) = false", "tell(1, 0, 1:1:1, 1) = 0",
                "same(0, 1) = false", "tell(0, 0, 2:1:1, 1) = 0", "same(0, 1) = true", "same(1, 0) = true",
                "batch(2, true) = 0", "join(2, 0) = 2", "same(2, 0) = false", "batch(2, false) = 1",
                "same(2, 0) = true");
        runs.run("rivals are not the same",
                "tell(0, 0, 1:1:1, 1) = 0", "tell(1, 0, 1:1:1, 2) = 0", "same(0, 1) = false");
        runs.run("a desk is the same as itself",
                "tell(2, 0, 1:1:1, 1) = 0", "same(2, 2) = true", "same(0, 0) = true", "batch(0, true) = 0",
                "tell(0, 0, 1:1:1, 1) = 0", "same(0, 0) = true", "same(0, 1) = true");
        runs.run("no such desks",
                "same(0, 3) = index", "same(3, 0) = index", "same(-1, 0) = index", "same(0, -1) = index",
                "same(3, 3) = index", "same(2147483647, 0) = index");
        runs.end();
    }
}
