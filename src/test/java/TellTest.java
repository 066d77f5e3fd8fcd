/** Promise 4: tell. */
public final class TellTest {
    private static final String[] VALUES = {"0", "1", "-1", "2147483647", "-2147483648"};

    public static void main(String[] args) {
        Runs runs = new Runs();
        runs.run("new, had already, and a rival",
                "tell(0, 0, 5:3:100, 777) = 0", "tell(0, 0, 5:3:100, 777) = 1", "tell(0, 0, 5:3:100, 778) = 2",
                "tell(0, 0, 5:3:100, 778) = 1", "tell(0, 0, 5:2:100, 777) = 2", "tell(0, 0, 5:3:101, 777) = 2",
                "many(0, 0) = 4", "many(0, 1) = 4");
        runs.run("what is told is kept apart",
                "tell(0, 4, 99:7:1000000, -2147483648) = 0", "last(0, 7, 0) = -2147483648", "last(0, 7, 1) = 1000000",
                "last(0, 7, 2) = 4", "last(0, 7, 3) = 99", "last(0, 7, 4) = 0",
                "tell(0, 0, 0:0:0, 2147483647) = 0", "last(0, 0, 0) = 2147483647", "last(0, 0, 1) = 0",
                "last(0, 0, 2) = 0", "last(0, 0, 3) = 0");
        rivals(runs);
        seenOrNot(runs);
        wrongIndex(runs);
        times(runs);
        numbers(runs);
        keys(runs);
        values(runs);
        otherBits(runs);
        room(runs);
        order(runs);
        runs.end();
    }

    private static void rivals(Runs runs) {
        runs.run("rivals differ in the key alone, the value alone or the time alone",
                "tell(0, 0, 5:3:100, 7) = 0", "tell(0, 0, 5:2:100, 7) = 2", "tell(1, 0, 5:3:100, 7) = 0",
                "tell(1, 0, 5:3:100, 8) = 2", "tell(2, 0, 5:3:100, 7) = 0", "tell(2, 0, 5:3:101, 7) = 2",
                "many(0, 0) = 2", "many(1, 0) = 2", "many(2, 0) = 2");
        runs.run("another teller is no rival", "tell(0, 0, 5:3:100, 1) = 0", "tell(0, 1, 5:3:100, 2) = 0");
        runs.run("another number is no rival", "tell(0, 0, 5:3:100, 1) = 0", "tell(0, 0, 6:3:100, 2) = 0",
                "tell(0, 0, 4:3:100, 2) = 0");
        runs.run("another life is no rival, and what is alike in another life is new",
                "tell(0, 0, 5:3:100, 1) = 0", "restart(0) = 1", "tell(0, 0, 5:3:100, 2) = 0", "restart(0) = 2",
                "tell(0, 0, 5:3:100, 1) = 0", "restart(0) = 3", "tell(0, 0, 5:3:100, 1) = 0",
                "tell(0, 0, 5:3:100, 1) = 1", "tell(0, 0, 5:3:100, 2) = 2", "many(0, 0) = 5");
        runs.run("a settled rival is a rival",
                "tell(0, 0, 5:3:100, 1) = 0", "settle(0:0:5, 0) = 1", "tell(0, 0, 5:3:100, 2) = 2",
                "settle(0:0:5, 1) = 2", "tell(1, 0, 5:3:100, 2) = 0", "tell(1, 0, 5:3:100, 1) = 2");
    }

    private static void seenOrNot(Runs runs) {
        runs.run("it has it already, seen",
                "tell(0, 0, 5:3:100, 1) = 0", "tell(0, 0, 5:3:100, 1) = 1", "many(0, 1) = 1", "batch(0, true) = 1",
                "tell(0, 0, 5:3:100, 1) = 1", "many(0, 2) = 0");
        runs.run("it has it already, not seen",
                "batch(0, true) = 0", "tell(0, 0, 5:3:100, 1) = 0", "tell(0, 0, 5:3:100, 1) = 1", "many(0, 2) = 1",
                "batch(0, false) = 1", "tell(0, 0, 5:3:100, 1) = 1", "many(0, 1) = 1");
        runs.run("only another desk has it", "tell(0, 0, 5:3:100, 1) = 0", "tell(1, 0, 5:3:100, 1) = 0",
                "tell(2, 0, 5:3:100, 1) = 0", "tell(1, 0, 5:3:100, 1) = 1");
        runs.run("it has it by a join", "tell(0, 0, 5:3:100, 1) = 0", "join(1, 0) = 1", "tell(1, 0, 5:3:100, 1) = 1",
                "batch(2, true) = 0", "join(2, 0) = 1", "tell(2, 0, 5:3:100, 1) = 1");
        runs.run("a rival that this desk has, seen",
                "tell(0, 0, 5:3:100, 1) = 0", "batch(0, true) = 1", "tell(0, 0, 5:3:100, 2) = 2", "many(0, 2) = 1");
        runs.run("a rival that this desk has, not seen",
                "batch(0, true) = 0", "tell(0, 0, 5:3:100, 1) = 0", "tell(0, 0, 5:3:100, 2) = 2", "many(0, 2) = 2",
                "many(0, 0) = 0");
        runs.run("only another desk has the rival",
                "tell(0, 0, 5:3:100, 1) = 0", "tell(1, 0, 5:3:100, 2) = 0", "batch(2, true) = 0",
                "tell(2, 0, 5:3:100, 3) = 0", "tell(1, 0, 5:3:100, 1) = 2");
    }

    private static void wrongIndex(Runs runs) {
        runs.run("index: no such desk",
                "tell(-1, 0, 0:0:0, 0) = index", "tell(0, 0, 0:0:0, 0) = 0", "tell(2, 0, 0:0:0, 0) = 0",
                "tell(3, 0, 0:0:0, 0) = index", "tell(2147483647, 0, 0:0:0, 0) = index",
                "tell(-2147483648, 0, 0:0:0, 0) = index", "many(0, 0) = 1", "many(1, 0) = 0", "many(2, 0) = 1");
        runs.run("index: no such teller",
                "tell(0, -1, 0:0:0, 0) = index", "tell(0, 0, 0:0:0, 0) = 0", "tell(0, 4, 0:0:0, 0) = 0",
                "tell(0, 5, 0:0:0, 0) = index", "tell(0, 2147483647, 0:0:0, 0) = index",
                "tell(0, -2147483648, 0:0:0, 0) = index", "many(0, 0) = 2");
    }

    private static void times(Runs runs) {
        runs.run("range: the time, 0 .. 1,000,000",
                "tell(0, 0, 1:1:0, 5) = 0", "last(0, 1, 1) = 0", "tell(0, 0, 2:1:1000000, 6) = 0", "last(0, 1, 1) = 1000000",
                "tell(0, 0, 3:1:1000001, 7) = range", "tell(0, 0, 3:1:1048575, 7) = range", "last(0, 1, 0) = 6",
                "many(0, 1) = 2");
        runs.run("range: a time too great with the greatest key and number, or the least",
                "tell(0, 0, 99:7:1000000, 5) = 0", "tell(0, 0, 99:7:1000001, 5) = range", "tell(0, 0, 0:0:1000000, 5) = 0",
                "tell(0, 0, 0:0:1000001, 5) = range", "settle(0:0:99, 1) = index", "settle(0:0:0, 1) = index");
    }

    private static void numbers(Runs runs) {
        runs.run("range: the number, 0 .. 99",
                "tell(0, 0, 0:1:5, 5) = 0", "last(0, 1, 3) = 0", "tell(0, 0, 99:1:6, 6) = 0", "last(0, 1, 3) = 99",
                "tell(0, 0, 100:1:7, 7) = range", "tell(0, 0, 127:1:7, 7) = range", "last(0, 1, 0) = 6", "many(0, 1) = 2");
        Script all = new Script();
        for (int number = 100; number < 128; number++) {
            all.then("tell(0, 0, " + number + ":0:0, 0) = range");
        }
        runs.run("range: all numbers that the bits could tell beside those", all.then("many(0, 1) = 0"));
    }

    private static void keys(Runs runs) {
        Script all = new Script();
        for (int key = 0; key < 8; key++) {
            all.then("tell(0, 0, " + key + ":" + key + ":9, " + (10 + key) + ") = 0", "last(0, " + key + ", 0) = " + (10 + key));
        }
        for (int key = 0; key < 8; key++) {
            all.then("last(0, " + key + ", 3) = " + key);
        }
        runs.run("all keys, 0 .. 7", all);
    }

    private static void values(Runs runs) {
        Script all = new Script();
        for (int i = 0; i < VALUES.length; i++) {
            all.then("tell(0, 0, 5:3:100, " + VALUES[i] + ") = " + (i == 0 ? 0 : 2));
        }
        for (int i = 0; i < VALUES.length; i++) {
            all.then("tell(0, 0, 5:3:100, " + VALUES[i] + ") = 1", "settle(0:0:5, " + i + ") = " + VALUES[i],
                    "last(0, 3, 0) = " + VALUES[i], "known(0, 3, 5) = " + (VALUES[i]));
        }
        runs.run("a value is any int", all);
    }

    private static void otherBits(Runs runs) {
        Script high = new Script().then("tell(0, 0, 5:3:100, 7) = 0");
        long right = 5L << 23 | 3L << 20 | 100;
        for (int bit = 30; bit < 64; bit++) {
            high.then("tell(0, 0, " + (right | 1L << bit) + ", 7) = range", "tell(0, 0, " + (1L << bit) + ", 7) = range");
        }
        runs.run("range: other bits are told, each of them", high.then("many(0, 1) = 1", "many(0, 0) = 1"));
        runs.run("the greatest long that is taken, and all about it",
                "tell(0, 0, 838860799, 7) = range", "tell(0, 0, 838860800, 7) = range", "tell(0, 0, 99:7:1000000, 7) = 0",
                "tell(0, 0, 99:7:1000001, 7) = range", "tell(0, 0, 1073741823, 7) = range",
                "tell(0, 0, 1073741824, 7) = range", "tell(0, 0, 2147483648, 7) = range",
                "tell(0, 0, 4294967296, 7) = range", "tell(0, 0, 9223372036854775807, 7) = range", "tell(0, 0, 0, 7) = 0",
                "tell(0, 0, -1, 7) = range", "tell(0, 0, -9223372036854775808, 7) = range", "many(0, 0) = 2");
    }

    private static void room(Runs runs) {
        runs.run("meaning: it is a new one and there are 120",
                new Script().tellings(0, 119).then("tell(0, 4, 99:7:7, 119) = 0", "tell(0, 4, 98:7:7, 119) = meaning",
                        "many(0, 0) = 120", "many(0, 1) = 120", "last(0, 7, 3) = 99", "settle(4:0:98, 0) = index"));
        runs.run("a rival has no room either",
                new Script().tellings(0, 120).then("tell(0, 0, 0:1:7, 1) = meaning", "tell(0, 0, 0:2:7, 0) = meaning",
                        "tell(0, 0, 0:1:8, 0) = meaning", "conflicts(0) = 0", "settle(0:0:0, 1) = index"));
        runs.run("120 rivals fill the room, too",
                new Script().rivals(0, 120).then("tell(0, 0, 0:1:7, 120) = meaning", "tell(0, 0, 1:1:7, 0) = meaning",
                        "tell(0, 0, 0:1:7, 119) = 1", "tell(1, 0, 0:1:7, 119) = 0", "tell(1, 0, 0:1:7, 0) = 2"));
        runs.run("with 120, each that is kept comes still to another desk",
                new Script().tellings(0, 120).tellings(2, 120).then("many(2, 0) = 120", "tell(2, 4, 0:1:7, 0) = meaning"));
        runs.run("the 120 are of all desks together, seen or not, and what is kept comes still to each",
                manyDesks().then("tell(2, 4, 0:1:7, 0) = meaning", "tell(1, 4, 0:1:7, 0) = meaning",
                        "tell(0, 4, 0:1:7, 0) = meaning", "many(0, 0) = 60", "many(0, 1) = 60", "many(1, 0) = 0",
                        "many(1, 2) = 60", "tell(0, 0, 0:1:7, 0) = 1", "tell(1, 0, 1:1:7, 1) = 1",
                        "tell(0, 0, 1:1:7, 1) = 0", "tell(2, 1, 19:1:7, 119) = 0", "batch(1, false) = 1",
                        "join(2, 0) = 61", "join(2, 1) = 58", "many(2, 0) = 120", "many(2, 1) = 120"));
        runs.run("with 120, what is alike in a later life is a new one",
                new Script().tellings(0, 120).then("restart(0) = 1", "tell(0, 0, 0:1:7, 0) = meaning",
                        "tell(0, 1, 0:1:7, 100) = 1", "many(0, 0) = 120"));
        runs.run("with 120, nothing refused comes into a batch",
                new Script().tellings(0, 120).then("batch(0, true) = 120", "tell(0, 4, 0:1:7, 0) = meaning",
                        "many(0, 2) = 0", "batch(0, false) = 120", "batch(1, true) = 0", "tell(1, 4, 0:1:7, 0) = meaning",
                        "tell(1, 0, 0:1:7, 0) = 0", "many(1, 2) = 1", "batch(1, false) = 1"));
    }

    /** 60 tellings that desk 0 has seen and 60 that wait at desk 1. */
    private static Script manyDesks() {
        Script both = new Script().then("batch(1, true) = 0");
        for (int i = 0; i < 120; i++) {
            both.then("tell(" + i % 2 + ", " + i / 100 + ", " + i % 100 + ":1:7, " + i + ") = 0");
        }
        return both;
    }

    private static void order(Runs runs) {
        runs.run("index ahead of range",
                "tell(3, 0, -1, 0) = index", "tell(-1, 0, 0:0:1000001, 0) = index", "tell(0, 5, 100:0:0, 0) = index",
                "tell(0, -1, 1073741824, 0) = index");
        runs.run("index and range ahead of meaning",
                new Script().tellings(0, 120).then("tell(3, 4, 0:0:0, 0) = index", "tell(-1, 4, 0:0:0, 0) = index",
                        "tell(0, 5, 0:0:0, 0) = index", "tell(0, -1, 0:0:0, 0) = index", "tell(0, 4, 100:0:0, 0) = range",
                        "tell(0, 4, 0:0:1000001, 0) = range", "tell(0, 4, 1073741824, 0) = range", "tell(0, 4, -1, 0) = range",
                        "tell(0, 4, 99:7:1000000, 0) = meaning"));
    }
}
