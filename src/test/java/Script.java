import java.util.ArrayList;
import java.util.List;

/** The lines of a long run, put together by loops. */
final class Script {
    final List<String> lines = new ArrayList<>();

    Script then(String... more) {
        lines.addAll(List.of(more));
        return this;
    }

    /** So many tellings of other names (teller 0, then 1; numbers 0 .. 99; key 1, time 7, value i) are new to a desk. */
    Script tellings(int desk, int many) {
        for (int i = 0; i < many; i++) {
            lines.add("tell(" + desk + ", " + i / 100 + ", " + i % 100 + ":1:7, " + i + ") = 0");
        }
        return this;
    }

    /** So many tellings of one name (0:0:0, with values from 0) are new to a desk. */
    Script rivals(int desk, int many) {
        for (int i = 0; i < many; i++) {
            lines.add("tell(" + desk + ", 0, 0:1:7, " + i + ") = " + (i == 0 ? 0 : 2));
        }
        return this;
    }
}
