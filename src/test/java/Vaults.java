import java.util.ArrayList;
import java.util.List;

/** Runs that bring a vault to an edge in few calls. */
final class Vaults {
    private static final int PIECES = 8;
    private static final int CHUNKED = 14;

    /** Persons 0 and 1 may do all. */
    static final Run PERSONS = new Run("person(0, 7)", "person(1, 7)");

    private Vaults() {
    }

    /** So many drawings of person 0. */
    static Run drawings(int n) {
        return PERSONS.times(n, "drawing(0)");
    }

    /** One more revision of a drawing, by person 0, as the newest one is. */
    static String[] revise(int drawing) {
        return new String[] {"out(" + drawing + ", 0)", "checkIn(" + drawing + ", 0)"};
    }

    /** One more revision of a drawing that has one more reference, its k-th. */
    static String[] refer(int drawing, int k, int target, int revision) {
        return new String[] {
            "out(" + drawing + ", 0)",
            "ref(" + drawing + ", 0, " + k + ", " + target + ", " + revision + ")",
            "checkIn(" + drawing + ", 0)",
        };
    }

    static String[] release(int drawing, int revision) {
        String which = "(" + drawing + ", " + revision;
        return new String[] {"check" + which + ", 1)", "release" + which + ", 0)"};
    }

    /** So many drawings of which each but drawing 0 refers to the one before it, all RELEASED. */
    static Run row(int n) {
        Run run = drawings(n).then(release(0, 0));
        for (int d = 1; d < n; d++) {
            run = run.then(refer(d, 0, d - 1, DrawingVault.NONE)).then(release(d, 1));
        }
        return run;
    }

    /** So many revisions of one drawing in all, of 64 bytes and so many chunks each but the first. */
    static Run dear(Run run, int drawing, int chunks, int revisions) {
        Run longer = run.then("out(" + drawing + ", 0)", "resize(" + drawing + ", 0, 64)");
        for (int i = 1; i < chunks; i++) {
            longer = longer.then("put(" + drawing + ", 0, " + PIECES * i + ", " + i + ")");
        }
        return longer.then("checkIn(" + drawing + ", 0)").times(revisions - 2, revise(drawing));
    }

    /** Writes by person() until so many pages are left, of a vault that is not copied forward then. */
    static Run left(Run run, int pages) {
        Run longer = run.times(run.ask("count(3)") - pages, "person(0, 7)");
        Checks.due("pages that are left", longer.ask("count(3)"), pages);
        return longer;
    }

    /**
     * So many chunks that copying forward would leave less than 40 pages, and so many pages are left.
     * There are 23 drawings. Drawing 15 is out with person 0 and 14 is not; 16 is IN WORK, 17 CHECKED,
     * 18 RELEASED; 19 RELEASED with 18/0 fixed; 20/1 CHECKED with an unreleased reference; 22 RELEASED
     * with a reference that resolves to none; baseline 0 has drawing 18.
     */
    static Run full(int pages) {
        Run run = drawings(23).then("check(17, 0, 1)").then(release(18, 0)).then("baseline(0, 18)")
            .then(refer(19, 0, 18, 0)).then(release(19, 1))
            .then(refer(20, 0, 0, DrawingVault.NONE)).then("check(20, 1, 1)")
            .then(release(21, 0)).then(refer(22, 0, 21, DrawingVault.NONE)).then(release(22, 1))
            .then("withdraw(21, 0, 0)", "out(15, 0)");
        return left(chunked(run, 32), pages);
    }

    /** So many revisions of 8 chunks each that no other one has, of drawings 0 to 13 in turn. */
    static Run chunked(Run run, int revisions) {
        List<String> calls = new ArrayList<>();
        for (int i = 0; i < revisions; i++) {
            int d = i % CHUNKED;
            int round = i / CHUNKED;
            calls.add("out(" + d + ", 0)");
            if (round == 0) {
                calls.add("resize(" + d + ", 0, 64)");
            }
            for (int piece = 0; piece < PIECES; piece++) {
                int at = PIECES * piece + round;
                calls.add("put(" + d + ", 0, " + at + ", " + (PIECES * d + piece + 1) + ")");
            }
            calls.add("checkIn(" + d + ", 0)");
        }
        return run.then(calls.toArray(new String[0]));
    }
}
