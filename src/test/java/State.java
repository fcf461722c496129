import java.util.ArrayList;
import java.util.List;
import java.util.function.ToIntFunction;

/**
 * All that a vault tells behind a run of calls, but for why(): what its questions answer now and once
 * it is started, which rights each person has, and how many pages come before a power failure.
 */
final class State {
    private static final int PERSONS = 16;
    private static final int DRAWINGS = 24;
    private static final int BASELINES = 10;
    private static final int MOST_PAGES_AHEAD = 12;

    private final List<String> now;
    private final List<String> power;
    private final List<String> started;

    State(Run run) {
        now = new Questions(run).answers();
        power = rights(run);
        power.add("count(7) = " + run.ask("count(7)"));
        power.add("pages before the power fails = " + pagesAhead(run.vault()));
        Run again = run.then("start()");
        started = new Questions(again).answers();
        started.addAll(rights(again));
    }

    void same(String call, State other) {
        compare(call, power, other.power);
        sameBesidePower(call, other);
    }

    void sameBesidePower(String call, State other) {
        compare(call + ", now", now, other.now);
        compare(call + ", once started", started, other.started);
    }

    private static void compare(String call, List<String> one, List<String> two) {
        Checks.due(call + ", how many answers", two.size(), one.size());
        for (int i = 0; i < Math.min(one.size(), two.size()); i++) {
            boolean same = one.get(i).equals(two.get(i));
            Checks.due(call + ": " + one.get(i) + " became " + two.get(i) + ", the same", same, true);
        }
    }

    /** No question tells them, so calls do that are refused by another reason if there is the right. */
    private static List<String> rights(Run run) {
        List<String> all = new ArrayList<>();
        for (int p = 0; p < PERSONS; p++) {
            DrawingVault asked = run.vault();
            String to = "rights of " + p + " to ";
            all.add(to + "check = " + new Call("check(NONE, 0, " + p + ")").on(asked) + ", " + asked.why());
            all.add(to + "release = " + new Call("release(NONE, 0, " + p + ")").on(asked) + ", " + asked.why());
            all.add(to + "make = " + new Call("drawing(" + p + ")").on(asked));
        }
        return all;
    }

    private static int pagesAhead(DrawingVault vault) {
        int pages = 0;
        while (pages < MOST_PAGES_AHEAD && new Call("person(0, 7)").on(vault) != Checks.STATE) {
            pages++;
        }
        return pages;
    }

    /** Asks all there is to ask, of new vaults of the same run when one has been used enough. */
    private static final class Questions {
        private final Run run;
        private final List<String> answers = new ArrayList<>();
        private DrawingVault vault;
        private int used;

        Questions(Run run) {
            this.run = run;
            vault = run.vault();
            used = run.length();
        }

        List<String> answers() {
            for (int what = 0; what < 7; what++) {
                int asked = what;
                ask("count " + what, v -> v.count(asked));
            }
            for (int n = 0; n < BASELINES; n++) {
                baseline(n);
            }
            for (int d = 0; d < ask("drawings", v -> v.count(0)); d++) {
                drawing(d);
            }
            return answers;
        }

        private int ask(String question, ToIntFunction<DrawingVault> it) {
            if (used >= Run.MOST_CALLS) {
                vault = run.vault();
                used = run.length();
            }
            used++;
            int answer = Checks.answer(() -> it.applyAsInt(vault));
            answers.add(question + " = " + answer);
            return answer;
        }

        private void baseline(int n) {
            int size = ask("in baseline " + n, v -> v.inBaseline(n, DrawingVault.NONE, 0));
            for (int k = 0; k < size; k++) {
                int asked = k;
                ask("drawing in baseline " + n, v -> v.inBaseline(n, asked, 0));
                ask("revision in baseline " + n, v -> v.inBaseline(n, asked, 1));
            }
        }

        private void drawing(int d) {
            int newest = ask("newest of " + d, v -> v.about(d, 0));
            ask("latest released of " + d, v -> v.about(d, 1));
            ask("whom " + d + " is out with", v -> v.about(d, 2));
            int bytes = ask("bytes of copy " + d, v -> v.about(d, 3));
            int references = ask("references of copy " + d, v -> v.about(d, 4));
            for (int i = 0; i < bytes; i++) {
                int what = 8 + i;
                ask("byte " + i + " of copy " + d, v -> v.about(d, what));
            }
            for (int i = 0; i < 2 * references; i++) {
                int what = 200 + i;
                ask("reference of copy " + d + ", what " + what, v -> v.about(d, what));
            }
            users(d, false);
            users(d, true);
            for (int r = 0; r <= newest; r++) {
                revision(d, r);
            }
        }

        private void users(int d, boolean all) {
            int found = 0;
            for (int k = 0; k < DRAWINGS && found != DrawingVault.NONE; k++) {
                int asked = k;
                found = ask("user of " + d + ", " + all, v -> v.user(d, all, asked));
            }
        }

        private void revision(int d, int r) {
            String of = " of " + d + "/" + r;
            ask("state" + of, v -> v.look(d, r, 0));
            ask("author" + of, v -> v.look(d, r, 1));
            int bytes = ask("bytes" + of, v -> v.look(d, r, 2));
            int references = ask("references" + of, v -> v.look(d, r, 3));
            ask("chunks" + of, v -> v.look(d, r, 4));
            for (int i = 0; i < bytes; i++) {
                int what = 8 + i;
                ask("byte " + i + of, v -> v.look(d, r, what));
            }
            for (int i = 0; i < 3 * references; i++) {
                int k = i / 3;
                int what = i % 3;
                ask("reference " + k + of + ", what " + what, v -> v.reference(d, r, k, what));
            }
        }
    }
}
