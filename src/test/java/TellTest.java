import java.util.ArrayList;
import java.util.List;

/** Promise 4: tell. */
public final class TellTest {
    public static void main(String[] args) {
        Runs runs = new Runs();
        runs.run("new, had already, and a rival",
                "tell(0, 0, 5:3:100, 777) = 0", "tell(0, 0, 5:3:100, 777) = 1", "tell(0, 0, 5:3:100, 778) = 2",
                "tell(0, 0, 5:3:100, 778) = 1", "tell(0, 0, 5:2:100, 777) = 2", "tell(0, 0, 5:3:101, 777) = 2",
                "many(0, 0) = 4", "many(0, 1) = 4");
        runs.run("other tellers, lives and numbers are no rivals",
                "tell(0, 0, 5:3:100, 1) = 0", "tell(0, 1, 5:3:100, 2) = 0", "tell(0, 0, 6:3:100, 2) = 0",
                "restart(0) = 1", "tell(0, 0, 5:3:100, 2) = 0", "tell(0, 0, 5:3:100, 1) = 2",
                "conflicts(0) = 1", "last(0, 3, 4) = 0");
        runs.run("only what this desk has is a rival there",
                "tell(0, 0, 5:3:100, 1) = 0", "tell(1, 0, 5:3:100, 2) = 0", "tell(1, 0, 5:3:100, 1) = 2",
                "tell(2, 0, 5:3:100, 1) = 0");
        runs.run("what waits for a batch's end is had, too",
                "batch(0, true) = 0", "tell(0, 0, 5:3:100, 1) = 0", "tell(0, 0, 5:3:100, 1) = 1",
                "tell(0, 0, 5:3:100, 2) = 2", "many(0, 2) = 2", "many(0, 0) = 0", "batch(0, false) = 1",
                "tell(0, 0, 5:3:100, 2) = 1");
        runs.run("a settled rival is a rival",
                "tell(0, 0, 5:3:100, 1) = 0", "settle(0:0:5, 0) = 1", "tell(0, 0, 5:3:100, 2) = 2");
        runs.run("what is told is kept apart",
                "tell(0, 4, 99:7:1000000, -2147483648) = 0", "last(0, 7, 0) = -2147483648", "last(0, 7, 1) = 1000000",
                "last(0, 7, 2) = 4", "last(0, 7, 3) = 99", "last(0, 7, 4) = 0",
                "tell(0, 0, 0:0:0, 2147483647) = 0", "last(0, 0, 0) = 2147483647", "last(0, 0, 1) = 0",
                "last(0, 0, 2) = 0", "last(0, 0, 3) = 0");
        runs.run("wrong inputs",
                "tell(3, 0, 0, 0) = index", "tell(-1, 0, 0, 0) = index", "tell(0, 5, 0, 0) = index",
                "tell(0, -1, 0, 0) = index", "tell(3, 0, -1, 0) = index", "tell(0, 5, 1000001, 0) = index",
                "tell(0, 0, 0:0:1000001, 0) = range", "tell(0, 0, 0:0:1048575, 0) = range",
                "tell(0, 0, 100:0:0, 0) = range", "tell(0, 0, 127:0:0, 0) = range",
                "tell(0, 0, 1073741824, 0) = range", "tell(0, 0, 4294967296, 0) = range",
                "tell(0, 0, -9223372036854775808, 0) = range", "tell(0, 0, -1, 0) = range",
                "many(0, 0) = 0", "many(0, 1) = 0", "settle(0:0:0, 0) = index");
        runs.run("no room", noRoom());
        runs.end();
    }

    private static String[] noRoom() {
        List<String> lines = new ArrayList<>();
        for (int i = 0; i < 120; i++) {
            lines.add("tell(" + i % 2 + ", " + i / 100 + ", " + i % 100 + ":1:7, " + i + ") = 0");
        }
        lines.add("tell(0, 1, 20:1:7, 0) = meaning");
        lines.add("tell(2, 0, 0:1:7, 1) = meaning");
        lines.add("tell(0, 0, 100:1:7, 0) = range");
        lines.add("tell(0, 5, 0:1:7, 0) = index");
        lines.add("many(0, 0) = 60");
        lines.add("many(0, 1) = 60");
        lines.add("tell(0, 0, 0:1:7, 0) = 1");
        lines.add("tell(0, 0, 1:1:7, 1) = 0");
        lines.add("tell(2, 1, 19:1:7, 119) = 0");
        lines.add("join(2, 0) = 61");
        lines.add("join(2, 1) = 58");
        lines.add("many(2, 0) = 120");
        lines.add("many(2, 1) = 120");
        lines.addAll(List.of("same(2, 2) = true", "same(2, 0) = false", "conflicts(2) = 0", "last(2, 1, 0) = 119",
                "last(2, 1, 2) = 1", "last(2, 0, 0) = turn", "known(2, 1, 120) = 119", "known(2, 1, 1) = 119",
                "known(2, 1, 121) = range", "gap(2, 0, 0) = -1", "gap(2, 1, 0) = -1", "gap(0, 0, 0) = 303",
                "settle(1:0:19, 1) = index", "batch(2, true) = 120", "batch(2, false) = 120"));
        lines.add("restart(0) = 1");
        lines.add("tell(0, 0, 0:1:7, 0) = meaning");
        lines.add("settle(1:0:19, 0) = 119");
        return lines.toArray(new String[0]);
    }
}
