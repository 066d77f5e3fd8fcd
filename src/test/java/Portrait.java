import java.util.ArrayList;
import java.util.List;

/**
 * A wide choice of what an object answers after some calls, so that two objects can be told apart: first what
 * can be asked (of all desks, keys and tellers, but only at some own times, moments and gaps), then what it
 * answers to calls that change it (settling only some numbers). Each part is asked of an object of its own,
 * since what an object answers after its 512th call is free; behind very many calls the changes are cut short.
 */
final class Portrait {
    private static final int[] OWN_TIMES =
            {0, 1, 2, 5, 6, 7, 10, 11, 50, 99, 100, 101, 150, 250, 500_000, 999_999, 1_000_000};
    private static final int[] MOMENTS = {0, 1, 2, 3, 4, 5, 119, 120};
    private static final int[] NUMBERS = {0, 1, 2, 99};
    private static final List<Call> QUESTIONS = questions();
    private static final List<Call> CHANGES = changes();

    private Portrait() {
    }

    /** Whether an object to which some calls more were made answers this choice as one to which they were not. */
    static boolean isSame(List<Call> before, List<Call> more) {
        List<Call> with = new ArrayList<>(before);
        with.addAll(more);
        int room = Face.MOST_CALLS - with.size();
        if (room < 50) {
            throw new AssertionError("too many calls for a portrait behind them");
        }
        return after(with, room).equals(after(before, room));
    }

    private static List<String> after(List<Call> calls, int room) {
        List<String> answers = new ArrayList<>();
        for (int from = 0; from < QUESTIONS.size(); from += room) {
            answers.addAll(ask(calls, QUESTIONS.subList(from, Math.min(QUESTIONS.size(), from + room))));
        }
        answers.addAll(ask(calls, CHANGES.subList(0, Math.min(CHANGES.size(), room))));
        return answers;
    }

    private static List<String> ask(List<Call> before, List<Call> asked) {
        ToldRows rows = new ToldRows();
        Call.answersOf(rows, before);
        return Call.answersOf(rows, asked);
    }

    private static List<Call> questions() {
        Calls calls = new Calls();
        for (int desk = 0; desk < 3; desk++) {
            askDesk(calls, desk);
            for (int key = 0; key < 8; key++) {
                for (int what = 0; what < 5; what++) {
                    calls.add("last", desk, key, what);
                }
                for (int moment : MOMENTS) {
                    calls.add("known", desk, key, moment);
                }
            }
            for (int teller = 0; teller < 5; teller++) {
                for (int k = 0; k < 3; k++) {
                    calls.add("gap", desk, teller, k);
                }
            }
        }
        for (int teller = 0; teller < 5; teller++) {
            for (int own : OWN_TIMES) {
                calls.add("real", teller, own);
            }
        }
        return calls.all;
    }

    /** The marks, lives, settlings, batches and the room that is left show in the answers to changes. */
    private static List<Call> changes() {
        Calls calls = new Calls();
        for (int desk = 0; desk < 3; desk++) {
            calls.add("batch", desk, false);
            askDesk(calls, desk);
        }
        for (int teller = 0; teller < 5; teller++) {
            calls.add("mark", teller, 1_000_000, 1_000_000);
            calls.add("restart", teller);
            for (int of = 0; of < 4 * NUMBERS.length; of++) {
                int name = teller << 9 | of / NUMBERS.length << 7 | NUMBERS[of % NUMBERS.length];
                calls.add("settle", name, 0);
                calls.add("settle", name, 1);
            }
        }
        for (int desk = 0; desk < 3; desk++) {
            calls.add("last", desk, 1, 0);
            calls.add("join", desk, (desk + 1) % 3);
            calls.add("join", desk, (desk + 2) % 3);
            askDesk(calls, desk);
        }
        for (int i = 0; i < 120; i++) {
            calls.add("tell", 2, 4 - i / 100, (long) (i % 100) << 23 | 6 << 20 | 999, 77);
        }
        return calls.all;
    }

    private static void askDesk(Calls calls, int desk) {
        for (int what = 0; what < 3; what++) {
            calls.add("many", desk, what);
        }
        calls.add("conflicts", desk);
        calls.add("same", desk, (desk + 1) % 3);
    }

    private static final class Calls {
        final List<Call> all = new ArrayList<>();

        void add(String name, Object... args) {
            all.add(new Call(name, List.of(args)));
        }
    }
}
