import java.util.List;

/**
 * Runs of calls on new objects, each written as "call = answer" (see Call). The answer is a number, true,
 * false, or the document's word for a refusal: index, turn, range, meaning. Of each refused call in a run
 * it is looked at, too, that it changed nothing.
 */
final class Runs {
    private int calls;
    private int wrong;

    private record Line(Call call, String due) {
        static Line parse(String text) {
            String[] sides = text.split(" = ");
            return new Line(Call.parse(sides[0]), sides[1]);
        }

        boolean isRefused() {
            return Face.isRefusal(due);
        }
    }

    void run(String what, String... lines) {
        run(what, List.of(lines));
    }

    void run(String what, Script script) {
        run(what, script.lines);
    }

    private void run(String what, List<String> texts) {
        List<Line> lines = texts.stream().map(Line::parse).toList();
        if (lines.size() > Face.MOST_CALLS) {
            throw new AssertionError(what + ": more calls than an object is used for");
        }
        answer(what, lines);
        answer(what + ", without the refused calls", lines.stream().filter(line -> !line.isRefused()).toList());
        for (int i = 0; i < lines.size(); i++) {
            if (lines.get(i).isRefused()) {
                changedNothing(what, lines.subList(0, i + 1));
            }
        }
    }

    void end() {
        if (calls == 0 || wrong != 0) {
            System.out.println(wrong + " of " + calls + " answers are not as due");
            System.exit(1);
        }
    }

    private void answer(String what, List<Line> lines) {
        ToldRows rows = new ToldRows();
        for (Line line : lines) {
            String got = line.call.answerOf(rows);
            calls++;
            if (!got.equals(line.due)) {
                tellWrong(what + ": " + line.call + " answered " + got + ", due is " + line.due);
            }
        }
    }

    private void changedNothing(String what, List<Line> untilRefused) {
        List<Call> made = untilRefused.stream().map(Line::call).toList();
        Call refused = made.get(made.size() - 1);
        if (!Portrait.isSame(made.subList(0, made.size() - 1), List.of(refused))) {
            tellWrong(what + ": " + refused + " is refused, but changed later answers");
        }
    }

    private void tellWrong(String text) {
        wrong++;
        System.out.println(text);
    }
}
