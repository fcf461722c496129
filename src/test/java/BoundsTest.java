/** The bounds that 'Terms' names: the last that is still allowed and the first that is not, on both sides. */
public final class BoundsTest {
    private static final int NONE = DrawingVault.NONE;
    private static final int LOW = Integer.MIN_VALUE;
    private static final int HIGH = Integer.MAX_VALUE;

    public static void main(String[] args) {
        persons0To15();
        noSuchPerson();
        rightsBitByBit();
        drawings0To23();
        noSuchDrawing();
        revisionsAtMost12Each();
        revisions100InAllByCheckIn();
        revisions100InAllByDrawing();
        noSuchRevision();
        contentOf0To64Bytes();
        references0To6InAnOrder();
        everyStateByEveryCommand();
        newestIsTheGreatest();
        outWithOnePerson();
        resolvesToTheFixedOne();
        resolvesToTheReleasedOneWithTheGreatestNumber();
        usesByTheNewestRevision();
        usesItselfByNoOther();
        usesItselfByOthers();
        Checks.end();
    }

    // ---- persons and rights ----

    private static void persons0To15() {
        Checks.test("PERSONS 0 .. 15");
        for (int p : new int[] {0, 15}) {
            Run run = new Run("person(7, 7)").does("person(" + p + ", 7)").does(0, "drawing(" + p + ")");
            Run out = run.does("out(0, " + p + ")").does("resize(0, " + p + ", 1)").does("put(0, " + p + ", 0, 9)")
                .does("ref(0, " + p + ", 0, 0, NONE)").does("drop(0, " + p + ", 0)");
            out.answers(p, "about(0, 2)");
            out.does("undo(0, " + p + ")");
            out.does(1, "checkIn(0, " + p + ")").answers(p, "look(0, 1, 1)");
            run.then("drawing(7)").does("check(1, 0, " + p + ")").does("release(1, 0, " + p + ")");
            run.does("withdraw(0, 0, " + p + ")");
        }
    }

    private static void noSuchPerson() {
        Checks.test("no such person");
        Run run = Vaults.drawings(2).then("out(0, 0)", "resize(0, 0, 8)", "ref(0, 0, 0, 1, NONE)");
        run.refuses(7, "person(%, 7)", -1, 16, LOW, HIGH);
        String[] calls = {
            "drawing(%)", "out(1, %)", "undo(0, %)", "put(0, %, 0, 1)", "resize(0, %, 1)", "ref(0, %, 0, 1, 0)",
            "drop(0, %, 0)", "checkIn(0, %)", "check(1, 0, %)", "withdraw(1, 0, %)",
        };
        for (String call : calls) {
            run.refuses(1, call, -1, 16, LOW, HIGH);
        }
        run.then("check(1, 0, 1)").refuses(1, "release(1, 0, %)", -1, 16, LOW, HIGH);
    }

    private static void rightsBitByBit() {
        Checks.test("RIGHTS: 1 to make drawings, 2 to check, 4 to release and withdraw");
        Run run = Vaults.drawings(4).then("check(1, 0, 1)", "out(2, 0)", "undo(2, 0)");
        for (int rights = 0; rights < 8; rights++) {
            Run with = run.does("person(5, " + rights + ")");
            onlyIf((rights & 1) != 0, with, 4, "drawing(5)");
            onlyIf((rights & 2) != 0, with, 1, "check(0, 0, 5)");
            onlyIf((rights & 4) != 0, with, 1, "release(1, 0, 5)");
            onlyIf((rights & 4) != 0, with, 1, "withdraw(3, 0, 5)");
            onlyIf(rights != 0, with, 1, "out(2, 5)");
            Run out = run.then("person(5, 1)", "out(3, 5)", "resize(3, 5, 1)", "ref(3, 5, 0, 2, NONE)")
                .then("person(5, " + rights + ")");
            String[] calls = {
                "undo(3, 5)", "put(3, 5, 0, 255)", "resize(3, 5, 64)", "ref(3, 5, 1, 2, 0)", "drop(3, 5, 0)",
                "checkIn(3, 5)",
            };
            for (String call : calls) {
                onlyIf(rights != 0, out, 1, call);
            }
        }
    }

    private static void onlyIf(boolean allowed, Run run, int answer, String call) {
        if (allowed) {
            run.does(answer, call);
        } else {
            run.refuses(1, call);
        }
    }

    // ---- drawings ----

    private static void drawings0To23() {
        Checks.test("DRAWINGS 0 .. 23");
        Vaults.PERSONS.does(0, "drawing(0)").does(1, "drawing(0)");
        Run all = Vaults.drawings(23).does(23, "drawing(0)");
        all.answers(24, "count(0)");
        all.refuses(8, "drawing(0)");
        all.refuses(7, "out(24, 0)");
        all.hasNone("about(24, 0)");
        Run last = all.does("out(23, 0)").does("ref(23, 0, 0, 22, 0)").does(1, "checkIn(23, 0)");
        last.answers(23, "user(22, true, 0)");
        last.does("withdraw(23, 1, 0)");
        last.then(Vaults.release(22, 0)).then(Vaults.release(23, 1)).does(2, "baseline(0, 23)")
            .answers(23, "inBaseline(0, 1, 0)");
    }

    private static void noSuchDrawing() {
        Checks.test("a drawing that there is not");
        Run run = Vaults.drawings(2).then("out(0, 0)", "resize(0, 0, 8)");
        int[] none = {-1, 2, 24, 32, LOW, HIGH};
        String[] calls = {
            "out(%, 0)", "undo(%, 0)", "put(%, 0, 0, 1)", "resize(%, 0, 1)", "ref(%, 0, 0, 1, NONE)",
            "ref(0, 0, 0, %, NONE)", "drop(%, 0, 0)", "checkIn(%, 0)", "check(%, 0, 1)", "release(%, 0, 1)",
            "withdraw(%, 0, 1)", "baseline(0, %)",
        };
        for (String call : calls) {
            run.refuses(7, call, none);
        }
        String[] questions = {"look(%, 0, 0)", "reference(%, 0, 0, 0)", "about(%, 0)", "difference(%, 0, 0, 0)"};
        for (String call : questions) {
            run.hasNone(call, none);
        }
        run.answers(NONE, "user(%, false, 0)", none);
        run.answers(NONE, "user(%, true, 0)", none);
    }

    // ---- revisions ----

    private static void revisionsAtMost12Each() {
        Checks.test("REVISIONS 0, 1, .., at most 12 each");
        Run eleven = Vaults.drawings(2).times(10, Vaults.revise(0)).then("out(0, 0)");
        eleven.answers(10, "about(0, 0)");
        Run twelve = eleven.does(11, "checkIn(0, 0)");
        twelve.answers(11, "about(0, 0)");
        twelve.answers(13, "count(1)");
        twelve.then("out(0, 0)", "resize(0, 0, 8)").refuses(8, "checkIn(0, 0)");
        twelve.then("out(0, 0)").does("undo(0, 0)");
        twelve.does("check(0, 11, 1)").does("release(0, 11, 0)").does(1, "baseline(0, 0)")
            .answers(11, "inBaseline(0, 0, 1)");
        twelve.does("withdraw(0, 11, 0)");
        twelve.then("out(1, 0)").does(1, "checkIn(1, 0)");
    }

    private static void revisions100InAllByCheckIn() {
        Checks.test("REVISIONS 100 in all, by checkIn()");
        Run run = Vaults.drawings(9);
        for (int d = 0; d < 8; d++) {
            run = run.times(11, Vaults.revise(d));
        }
        Run least = run.times(2, Vaults.revise(8)).then("out(8, 0)");
        least.answers(99, "count(1)");
        Run most = least.does(3, "checkIn(8, 0)");
        most.answers(100, "count(1)");
        most.then("out(8, 0)").refuses(8, "checkIn(8, 0)");
        most.refuses(8, "drawing(0)");
        least.does(9, "drawing(0)").refuses(8, "checkIn(8, 0)");
    }

    private static void revisions100InAllByDrawing() {
        Checks.test("REVISIONS 100 in all, by drawing()");
        Run run = Vaults.drawings(23);
        for (int d = 0; d < 7; d++) {
            run = run.times(d < 6 ? 11 : 10, Vaults.revise(d));
        }
        run.answers(99, "count(1)");
        run.does(23, "drawing(0)").answers(100, "count(1)");
        run.then(Vaults.revise(6)).refuses(8, "drawing(0)");
    }

    private static void noSuchRevision() {
        Checks.test("a revision that there is not");
        Run run = Vaults.drawings(2).then(Vaults.revise(0));
        int[] none = {-1, 2, 12, 100, LOW, HIGH};
        for (String call : new String[] {"check(0, %, 1)", "release(0, %, 1)", "withdraw(0, %, 1)"}) {
            run.refuses(7, call, none);
        }
        String[] questions = {
            "look(0, %, 0)", "reference(0, %, 0, 0)", "difference(0, %, 0, 0)", "difference(0, 0, %, 0)",
        };
        for (String call : questions) {
            run.hasNone(call, none);
        }
        Run full = run.times(10, Vaults.revise(0));
        full.refuses(7, "check(0, 12, 1)");
        full.refuses(7, "release(0, 12, 1)");
        full.refuses(7, "withdraw(0, 12, 1)");
        full.hasNone("look(0, 12, 0)");
    }

    // ---- what a revision has ----

    private static void contentOf0To64Bytes() {
        Checks.test("CONTENT (0 .. 64 bytes)");
        Run out = Vaults.drawings(1).then("out(0, 0)");
        out.does(1, "checkIn(0, 0)").answers(0, "look(0, 1, 2)");
        out.then("checkIn(0, 0)").hasNone("look(0, 1, 8)");
        Run full = out.does("resize(0, 0, 64)").does("put(0, 0, 63, 255)").does(1, "checkIn(0, 0)");
        full.answers(64, "look(0, 1, 2)");
        full.answers(255, "look(0, 1, 71)");
        full.hasNone("look(0, 1, 72)");
        out.refuses(7, "resize(0, 0, 65)");
    }

    private static void references0To6InAnOrder() {
        Checks.test("REFERENCES (0 .. 6, in an order, each a drawing and a revision, or NONE)");
        Run run = Vaults.drawings(4).then("out(0, 0)");
        run.does(1, "checkIn(0, 0)").answers(0, "look(0, 1, 3)");
        int[] targets = {3, 1, 2, 2, 1, 3};
        int[] revisions = {0, NONE, 0, NONE, 0, 0};
        for (int k = 0; k < 6; k++) {
            run = run.does("ref(0, 0, " + k + ", " + targets[k] + ", " + revisions[k] + ")");
        }
        run.refuses(8, "ref(0, 0, 6, 1, 0)");
        Run six = run.does(1, "checkIn(0, 0)");
        six.answers(6, "look(0, 1, 3)");
        for (int k = 0; k < 6; k++) {
            six.answers(targets[k], "reference(0, 1, " + k + ", 0)");
            six.answers(revisions[k], "reference(0, 1, " + k + ", 1)");
        }
        six.hasNone("reference(0, 1, 6, 0)");
    }

    private static void everyStateByEveryCommand() {
        Checks.test("STATE: 0 IN WORK, 1 CHECKED, 2 RELEASED, 3 WITHDRAWN");
        Run[] in = new Run[4];
        in[0] = Vaults.drawings(1);
        in[1] = in[0].does("check(0, 0, 1)");
        in[2] = in[1].does("release(0, 0, 1)");
        in[3] = in[0].does("withdraw(0, 0, 1)");
        for (int state = 0; state < 4; state++) {
            in[state].answers(state, "look(0, 0, 0)");
            allowedIn(in[state], state == 0, "check(0, 0, 1)", 1);
            allowedIn(in[state], state == 1, "release(0, 0, 1)", 2);
            allowedIn(in[state], state != 3, "withdraw(0, 0, 1)", 3);
        }
    }

    private static void allowedIn(Run run, boolean allowed, String call, int becomes) {
        if (allowed) {
            run.does(call).answers(becomes, "look(0, 0, 0)");
        } else {
            run.refuses(2, call);
        }
    }

    private static void newestIsTheGreatest() {
        Checks.test("Its newest revision is that with the greatest number");
        Run run = Vaults.drawings(1);
        run.answers(0, "about(0, 0)");
        Run two = run.then(Vaults.revise(0));
        two.answers(1, "about(0, 0)");
        two.refuses(2, "check(0, 0, 1)");
        two.then("withdraw(0, 1, 0)").answers(1, "about(0, 0)");
        two.then("withdraw(0, 1, 0)").refuses(2, "check(0, 0, 1)");
    }

    private static void outWithOnePerson() {
        Checks.test("A drawing may be OUT with one person");
        Run out = Vaults.drawings(2).does("out(0, 0)");
        out.refuses(2, "out(0, 0)");
        out.refuses(2, "out(0, 1)");
        out.does("out(1, 0)").answers(2, "start()");
        out.then("undo(0, 0)").does("out(0, 1)");
        out.then("checkIn(0, 0)").does("out(0, 1)");
    }

    // ---- references ----

    private static void resolvesToTheFixedOne() {
        Checks.test("A reference RESOLVES: a fixed one to that one");
        Run run = Vaults.drawings(2).then(Vaults.revise(1)).then(Vaults.refer(0, 0, 1, 0));
        run.answers(0, "reference(0, 1, 0, 2)");
        run.then(Vaults.release(1, 1)).answers(0, "reference(0, 1, 0, 2)");
        run.then("withdraw(1, 0, 0)").answers(0, "reference(0, 1, 0, 2)");
    }

    private static void resolvesToTheReleasedOneWithTheGreatestNumber() {
        Checks.test("else to the RELEASED revision of its drawing with the greatest number, or to NONE");
        Run none = Vaults.drawings(2).then(Vaults.refer(0, 0, 1, NONE));
        none.answers(NONE, "reference(0, 1, 0, 2)");
        Run checked = none.then("check(1, 0, 1)");
        checked.answers(NONE, "reference(0, 1, 0, 2)");
        Run later = checked.then(Vaults.revise(1)).then(Vaults.release(1, 1));
        later.answers(1, "reference(0, 1, 0, 2)");
        Run older = later.does("release(1, 0, 0)");
        older.answers(1, "reference(0, 1, 0, 2)");
        older.answers(1, "about(1, 1)");
        older.then(Vaults.revise(1)).answers(1, "reference(0, 1, 0, 2)");
        Run first = older.then("withdraw(1, 1, 0)");
        first.answers(0, "reference(0, 1, 0, 2)");
        first.answers(0, "about(1, 1)");
        first.then("withdraw(1, 0, 0)").answers(NONE, "reference(0, 1, 0, 2)");
    }

    private static void usesByTheNewestRevision() {
        Checks.test("A drawing USES another one if its newest revision has a reference to it (whatever revision)");
        Run run = Vaults.drawings(3).then(Vaults.revise(1));
        run.answers(NONE, "user(1, false, 0)");
        for (int revision : new int[] {NONE, 0, 1}) {
            run.then(Vaults.refer(0, 0, 1, revision)).answers(0, "user(1, false, 0)");
        }
        Run uses = run.then(Vaults.refer(0, 0, 1, NONE));
        uses.then("withdraw(0, 1, 0)").answers(0, "user(1, false, 0)");
        uses.then("withdraw(1, 1, 0)").answers(0, "user(1, false, 0)");
        uses.then("out(0, 0)", "drop(0, 0, 0)").answers(0, "user(1, false, 0)");
        uses.then("out(0, 0)", "drop(0, 0, 0)", "checkIn(0, 0)").answers(NONE, "user(1, false, 0)");
        run.then("out(0, 0)", "ref(0, 0, 0, 1, NONE)").answers(NONE, "user(1, false, 0)");
    }

    private static void usesItselfByNoOther() {
        Checks.test("No drawing may come to use itself");
        Run run = Vaults.drawings(2).then("out(0, 0)");
        run.does("ref(0, 0, 0, 0, NONE)").refuses(6, "checkIn(0, 0)");
        run.does("ref(0, 0, 0, 0, 0)").refuses(6, "checkIn(0, 0)");
        run.does("ref(0, 0, 0, 0, 1)").refuses(6, "checkIn(0, 0)");
        run.does("ref(0, 0, 0, 1, 0)").does("ref(0, 0, 1, 0, 0)").refuses(6, "checkIn(0, 0)");
        run.does("ref(0, 0, 0, 1, 0)").does(1, "checkIn(0, 0)");
    }

    private static void usesItselfByOthers() {
        Checks.test("by others or not");
        Run two = Vaults.drawings(2).then(Vaults.refer(0, 0, 1, NONE)).then("out(1, 0)", "ref(1, 0, 0, 0, 0)");
        two.refuses(6, "checkIn(1, 0)");
        two.then("out(0, 0)", "drop(0, 0, 0)").refuses(6, "checkIn(1, 0)");
        two.then("out(0, 0)", "drop(0, 0, 0)", "checkIn(0, 0)").does(1, "checkIn(1, 0)");
        Run row = Vaults.drawings(24);
        for (int d = 0; d < 23; d++) {
            row = row.then(Vaults.refer(d, 0, d + 1, NONE));
        }
        row.then("out(23, 0)", "ref(23, 0, 0, 0, NONE)").refuses(6, "checkIn(23, 0)");
        row.then("out(23, 0)").does(1, "checkIn(23, 0)");
        Run down = Vaults.row(23).then("drawing(0)").then(Vaults.refer(23, 0, 22, NONE));
        down.then("out(0, 0)", "ref(0, 0, 0, 23, NONE)").refuses(6, "checkIn(0, 0)");
        down.then("out(0, 0)", "ref(0, 0, 0, 22, 0)").refuses(6, "checkIn(0, 0)");
    }
}
