/** Promises 1 to 5 and 10 to 14, sentence by sentence: what each answers and does at its edges. */
public final class CommandEdgesTest {
    private static final int NONE = DrawingVault.NONE;
    private static final int LOW = Integer.MIN_VALUE;
    private static final int HIGH = Integer.MAX_VALUE;

    public static void main(String[] args) {
        newObjectHasNothing();
        newObjectsAreApart();
        usedFor512Calls();
        personHasRights();
        personFromNowOn();
        drawingIsNumbered();
        drawingHasAnEmptyRevision();
        outCopiesTheNewest();
        outOfEachSize();
        outRefused();
        undoGivesUp();
        undoRefused();
        checkInMakesTheNextRevision();
        checkInOfAFullCopy();
        checkInOfAFixedRevision();
        checkInRefused();
        checkOfTheNewest();
        checkWhileItIsOut();
        checkByAnother();
        releaseOfAChecked();
        releaseWhileItIsOut();
        withdrawOfWhatIsNot();
        withdrawWhileItIsOut();
        baselineNumbers();
        baselineThereAlready();
        baselineOfTheLatestReleased();
        baselineOfAllReached();
        baselineOfTwoRevisions();
        baselineOfTwoRevisionsOfItself();
        baselineUnreleased();
        baselineOfNoDrawing();
        baselineRefusedLeavesNothing();
        Checks.end();
    }

    // ---- promise 1 ----

    private static void newObjectHasNothing() {
        Checks.test("1: No persons with rights, no drawings; 400 pages free");
        Run run = new Run();
        int[] counts = {0, 0, 0, 400, 0, 0, 0, 0};
        for (int what = 0; what < counts.length; what++) {
            run.answers(counts[what], "count(" + what + ")");
        }
        run.answers(0, "why()");
        run.answers(0, "start()");
        int[] all = {0, 1, 2, 3, 4, 5, 6, 7, 8, 9, 10, 11, 12, 13, 14, 15};
        run.refuses(1, "drawing(%)", all);
        run.refuses(1, "out(0, %)", all);
        run.refuses(1, "check(0, 0, %)", all);
        run.refuses(1, "release(0, 0, %)", all);
        run.refuses(1, "withdraw(0, 0, %)", all);
        run.refuses(7, "baseline(0, 0)");
        run.hasNone("look(0, 0, 0)");
        run.hasNone("reference(0, 0, 0, 0)");
        run.hasNone("about(0, 0)");
        run.hasNone("inBaseline(0, NONE, 0)");
        run.hasNone("difference(0, 0, 0, 0)");
        run.answers(NONE, "user(0, true, 0)");
    }

    private static void newObjectsAreApart() {
        Checks.test("1: each object is one of its own");
        DrawingVault one = new DrawingVault();
        DrawingVault two = new DrawingVault();
        one.person(0, 7);
        one.drawing(0);
        Checks.due("commands of the other", two.count(4), 0);
        Checks.due("drawings of the other", two.count(0), 0);
        Checks.due("drawing(0) of the other", two.drawing(0), NONE);
    }

    private static void usedFor512Calls() {
        Checks.test("An object is used for at most 512 calls after it has been made");
        DrawingVault writing = new DrawingVault();
        for (int i = 0; i < 511; i++) {
            Checks.due("person(), call " + (i + 1), writing.person(i % 16, 7), true);
        }
        Checks.due("drawing(15), call 512", writing.drawing(15), 0);
        DrawingVault asked = new DrawingVault();
        for (int i = 0; i < 511; i++) {
            asked.user(0, true, i);
        }
        Checks.due("person(0, 7), call 512", asked.person(0, 7), true);
    }

    // ---- promise 2 ----

    private static void personHasRights() {
        Checks.test("2: rights (0 .. 7); false, with reason 7, if there is no such person or rights");
        Run run = Vaults.drawings(1);
        for (int rights = 0; rights < 8; rights++) {
            run.does("person(0, " + rights + ")");
            run.does("person(15, " + rights + ")");
        }
        run.refuses(7, "person(0, %)", -1, 8, 15, LOW, HIGH);
        run.refuses(7, "person(%, 0)", -1, 16, LOW, HIGH);
        run.refuses(7, "person(%, 8)", -1, 16, LOW, HIGH);
    }

    private static void personFromNowOn() {
        Checks.test("2: from now on");
        Run run = new Run("person(3, 7)", "person(4, 7)", "drawing(3)");
        run.does("person(3, 6)").refuses(1, "drawing(3)");
        run.does("person(3, 5)").then("drawing(4)").refuses(1, "check(1, 0, 3)");
        run.does("person(3, 3)").refuses(1, "withdraw(0, 0, 3)");
        run.does("person(3, 0)").refuses(1, "out(0, 3)");
        run.does("person(3, 0)").does("person(3, 1)").does(1, "drawing(3)");
        Run out = run.then("out(0, 3)", "person(3, 0)");
        out.answers(3, "about(0, 2)");
        out.refuses(1, "undo(0, 3)");
        out.refuses(2, "undo(0, 4)");
        out.does("person(3, 2)").does("undo(0, 3)");
    }

    // ---- promise 3 ----

    private static void drawingIsNumbered() {
        Checks.test("3: its number");
        Run run = Vaults.PERSONS;
        for (int d = 0; d < 24; d++) {
            run = run.does(d, "drawing(" + d % 2 + ")");
            run.answers(d + 1, "count(0)");
            run.answers(d + 1, "count(1)");
            run.answers(d % 2, "look(" + d + ", 0, 1)");
        }
        run.refuses(8, "drawing(0)");
        run.refuses(1, "drawing(%)", 2, 15, 16, -1, LOW, HIGH);
    }

    private static void drawingHasAnEmptyRevision() {
        Checks.test("3: with an empty revision 0, IN WORK, of a person");
        Run run = new Run("person(15, 1)", "drawing(15)");
        int[] look = {0, 15, 0, 0, 0};
        for (int what = 0; what < look.length; what++) {
            run.answers(look[what], "look(0, 0, " + what + ")");
        }
        run.hasNone("look(0, 0, 8)");
        run.hasNone("look(0, 1, 0)");
        run.hasNone("reference(0, 0, 0, 0)");
        run.answers(NONE, "about(0, 1)");
        run.answers(NONE, "about(0, 2)");
    }

    // ---- promise 4 ----

    private static void outCopiesTheNewest() {
        Checks.test("4: with a copy of its newest revision");
        Run run = Vaults.drawings(2).then("out(0, 0)", "resize(0, 0, 8)", "put(0, 0, 7, 1)", "checkIn(0, 0)")
            .then(Vaults.release(0, 1)).then("out(0, 0)", "put(0, 0, 7, 2)", "ref(0, 0, 0, 1, 0)", "checkIn(0, 0)");
        for (Run newest : new Run[] {run, run.then("withdraw(0, 2, 0)")}) {
            Run out = newest.does("out(0, 1)");
            out.answers(1, "about(0, 2)");
            out.answers(8, "about(0, 3)");
            out.answers(2, "about(0, 15)");
            out.answers(1, "about(0, 4)");
            out.answers(1, "about(0, 200)");
            out.answers(0, "about(0, 201)");
        }
        Run apart = run.then("out(0, 1)", "put(0, 1, 7, 3)", "drop(0, 1, 0)", "resize(0, 1, 64)");
        apart.answers(2, "look(0, 2, 15)");
        apart.answers(8, "look(0, 2, 2)");
        apart.answers(1, "look(0, 2, 3)");
    }

    private static void outOfEachSize() {
        Checks.test("4: of an empty and of a full one");
        Run empty = Vaults.drawings(2).does("out(0, 0)");
        empty.answers(0, "about(0, 3)");
        empty.answers(0, "about(0, 4)");
        empty.hasNone("about(0, 8)");
        empty.hasNone("about(0, 200)");
        Run full = empty.then("resize(0, 0, 64)", "put(0, 0, 0, 255)", "put(0, 0, 63, 254)");
        for (int k = 0; k < 6; k++) {
            full = full.then("ref(0, 0, " + k + ", 1, " + (k % 2 == 0 ? 0 : NONE) + ")");
        }
        Run out = full.does(1, "checkIn(0, 0)").does("out(0, 1)");
        out.answers(64, "about(0, 3)");
        out.answers(255, "about(0, 8)");
        out.answers(254, "about(0, 71)");
        out.answers(6, "about(0, 4)");
        out.answers(1, "about(0, 210)");
        out.answers(NONE, "about(0, 211)");
    }

    private static void outRefused() {
        Checks.test("4: false: 1, 2 (it is out, with whomever), 7, 8");
        Run run = Vaults.drawings(2).then("out(0, 0)", "resize(0, 0, 5)", "person(2, 4)");
        run.refuses(1, "out(1, %)", 3, 15, 16, -1, LOW, HIGH);
        run.refuses(2, "out(0, %)", 0, 1, 2);
        run.refuses(7, "out(%, 0)", 2, 23, 24, -1, LOW, HIGH);
        Vaults.full(0).refuses(8, "out(14, 0)");
        run.then("person(0, 0)").refuses(2, "out(0, 1)");
    }

    // ---- promise 5 ----

    private static void undoGivesUp() {
        Checks.test("5: What is out with a person is given up");
        Run run = Vaults.drawings(2).then("out(0, 0)", "out(1, 0)", "resize(0, 0, 5)", "ref(0, 0, 0, 1, NONE)");
        Run undone = run.does("undo(0, 0)");
        undone.answers(NONE, "about(0, 2)");
        undone.answers(0, "about(0, 3)");
        undone.answers(0, "about(0, 4)");
        undone.hasNone("about(0, 8)");
        undone.hasNone("about(0, 200)");
        undone.answers(0, "about(0, 0)");
        undone.answers(0, "about(1, 2)");
        undone.refuses(2, "undo(0, 0)");
        undone.does("out(0, 1)").answers(0, "about(0, 3)");
    }

    private static void undoRefused() {
        Checks.test("5: false: 1, 2 (it is not out with them), 7, 8");
        Run run = Vaults.drawings(2).then("out(0, 0)", "resize(0, 0, 5)");
        run.refuses(1, "undo(0, %)", 2, 15, 16, -1, LOW, HIGH);
        run.refuses(2, "undo(0, 1)");
        run.refuses(2, "undo(1, 0)");
        run.refuses(7, "undo(%, 0)", 2, 23, 24, -1, LOW, HIGH);
        Vaults.full(0).refuses(8, "undo(15, 0)");
    }

    // ---- promise 10 ----

    private static void checkInMakesTheNextRevision() {
        Checks.test("10: The copy that is out becomes the next revision, IN WORK, of that person; nothing is out");
        Run run = Vaults.drawings(2).then(Vaults.release(0, 0)).then("person(2, 4)", "out(0, 2)", "resize(0, 2, 9)")
            .then("put(0, 2, 8, 5)", "ref(0, 2, 0, 1, NONE)").does(1, "checkIn(0, 2)");
        int[] look = {0, 2, 9, 1, 2};
        for (int what = 0; what < look.length; what++) {
            run.answers(look[what], "look(0, 1, " + what + ")");
        }
        run.answers(5, "look(0, 1, 16)");
        run.answers(1, "reference(0, 1, 0, 0)");
        run.answers(NONE, "reference(0, 1, 0, 1)");
        run.answers(2, "look(0, 0, 0)");
        run.answers(0, "look(0, 0, 1)");
        run.answers(0, "look(0, 0, 2)");
        run.answers(1, "about(0, 0)");
        run.answers(NONE, "about(0, 2)");
        run.answers(0, "about(0, 3)");
        run.answers(0, "about(0, 4)");
        run.refuses(2, "checkIn(0, 2)");
        run.does("out(0, 1)").does(2, "checkIn(0, 1)").answers(9, "look(0, 2, 2)");
    }

    private static void checkInOfAFullCopy() {
        Checks.test("10: with 64 bytes and six references");
        Run run = Vaults.drawings(7).then("out(0, 0)", "resize(0, 0, 64)");
        for (int at = 0; at < 64; at++) {
            run = run.then("put(0, 0, " + at + ", " + (255 - at) + ")");
        }
        for (int k = 0; k < 6; k++) {
            run = run.then("ref(0, 0, " + k + ", " + (6 - k) + ", 0)");
        }
        Run in = run.does(1, "checkIn(0, 0)");
        for (int at = 0; at < 64; at++) {
            in.answers(255 - at, "look(0, 1, " + (8 + at) + ")");
        }
        for (int k = 0; k < 6; k++) {
            in.answers(6 - k, "reference(0, 1, " + k + ", 0)");
            in.answers(0, "user(" + (6 - k) + ", false, 0)");
        }
    }

    private static void checkInOfAFixedRevision() {
        Checks.test("10: 7 (a fixed revision that is not there)");
        Run run = Vaults.drawings(2).times(3, Vaults.revise(1)).then("out(0, 0)");
        for (int revision : new int[] {NONE, 0, 3}) {
            run.does("ref(0, 0, 0, 1, " + revision + ")").does(1, "checkIn(0, 0)");
        }
        for (int revision : new int[] {4, 11, 12, HIGH}) {
            run.does("ref(0, 0, 0, 1, " + revision + ")").refuses(7, "checkIn(0, 0)");
        }
        Run six = run;
        for (int k = 0; k < 6; k++) {
            six = six.then("ref(0, 0, " + k + ", 1, 3)");
        }
        six.does(1, "checkIn(0, 0)");
        for (int k = 0; k < 6; k++) {
            Run wrong = six.then("ref(0, 0, " + k + ", 1, 4)");
            wrong.refuses(7, "checkIn(0, 0)");
            wrong.then("drop(0, 0, " + k + ")").does(1, "checkIn(0, 0)");
        }
        run.then("ref(0, 0, 0, 1, 4)").then(Vaults.revise(1)).does(1, "checkIn(0, 0)");
        run.then("ref(0, 0, 0, 1, 3)", "withdraw(1, 3, 0)").does(1, "checkIn(0, 0)");
    }

    private static void checkInRefused() {
        Checks.test("10: NONE: 1, 2, 6, 7, 8");
        Run run = Vaults.drawings(2).then("out(0, 0)", "resize(0, 0, 5)");
        run.refuses(1, "checkIn(0, %)", 2, 15, 16, -1, LOW, HIGH);
        run.refuses(2, "checkIn(0, 1)");
        run.refuses(2, "checkIn(1, 0)");
        run.then("ref(0, 0, 0, 0, NONE)").refuses(6, "checkIn(0, 0)");
        run.refuses(7, "checkIn(%, 0)", 2, 23, 24, -1, LOW, HIGH);
        Vaults.full(1).refuses(8, "checkIn(15, 0)");
    }

    // ---- promises 11 to 13 ----

    private static void checkOfTheNewest() {
        Checks.test("11: 2 (it is not IN WORK, not the newest)");
        Run run = Vaults.drawings(1);
        run.does("check(0, 0, 1)").answers(1, "look(0, 0, 0)");
        Run two = run.then(Vaults.revise(0));
        two.refuses(2, "check(0, 0, 1)");
        Run checked = two.does("check(0, 1, 1)");
        checked.answers(0, "look(0, 0, 0)");
        checked.answers(1, "look(0, 1, 0)");
        checked.refuses(2, "check(0, 1, 1)");
        checked.then("release(0, 1, 0)").refuses(2, "check(0, 1, 1)");
        checked.then("withdraw(0, 1, 0)").refuses(2, "check(0, 1, 1)");
        two.then("withdraw(0, 1, 0)").refuses(2, "check(0, 0, 1)");
        two.refuses(7, "check(0, %, 1)", 2, 12, -1, LOW, HIGH);
        two.refuses(7, "check(%, 0, 1)", 1, 24, -1, LOW, HIGH);
        two.refuses(1, "check(0, 1, %)", 2, 16, -1, LOW, HIGH);
        Vaults.full(0).refuses(8, "check(16, 0, 1)");
    }

    private static void checkWhileItIsOut() {
        Checks.test("11: 2 (or the drawing is out)");
        Run out = Vaults.drawings(2).then("out(0, 1)");
        out.refuses(2, "check(0, 0, 1)");
        out.then("person(2, 2)").refuses(2, "check(0, 0, 2)");
        out.does("check(1, 0, 1)");
        out.then("undo(0, 1)").does("check(0, 0, 1)");
        out.then("checkIn(0, 1)").does("check(0, 1, 0)");
    }

    private static void checkByAnother() {
        Checks.test("11: by a person with right 2 who is not its author");
        Run run = Vaults.drawings(1).then("person(2, 2)", "out(0, 2)", "checkIn(0, 2)");
        run.refuses(3, "check(0, 1, 2)");
        run.does("check(0, 1, 0)").answers(2, "look(0, 1, 1)");
        run.then("out(0, 0)", "checkIn(0, 0)").does("check(0, 2, 2)");
    }

    private static void releaseOfAChecked() {
        Checks.test("12: A CHECKED revision becomes RELEASED; false: 1, 2, 4, 7, 8");
        Run run = Vaults.drawings(1).then("check(0, 0, 1)", "person(2, 4)", "person(3, 3)");
        Run released = run.does("release(0, 0, 2)");
        released.answers(2, "look(0, 0, 0)");
        released.answers(0, "about(0, 1)");
        released.refuses(2, "release(0, 0, 2)");
        run.does("release(0, 0, 0)");
        run.then(Vaults.revise(0)).does("release(0, 0, 2)").answers(0, "about(0, 1)");
        run.then(Vaults.revise(0)).refuses(2, "release(0, 1, 2)");
        run.refuses(1, "release(0, 0, %)", 3, 16, -1, LOW, HIGH);
        run.refuses(7, "release(0, %, 2)", 1, 12, -1, LOW, HIGH);
        run.refuses(7, "release(%, 0, 2)", 1, 24, -1, LOW, HIGH);
        run.then("withdraw(0, 0, 0)").refuses(2, "release(0, 0, 2)");
        Vaults.full(0).refuses(8, "release(17, 0, 0)");
    }

    private static void releaseWhileItIsOut() {
        Checks.test("12: (whether the drawing is out does not matter here, nor for withdraw())");
        Run run = Vaults.drawings(1).then("check(0, 0, 1)", "out(0, 1)");
        Run released = run.does("release(0, 0, 0)");
        released.answers(1, "about(0, 2)");
        released.answers(2, "look(0, 0, 0)");
    }

    private static void withdrawOfWhatIsNot() {
        Checks.test("13: A revision that is not WITHDRAWN becomes that; false: 1, 2, 5, 7, 8");
        Run run = Vaults.drawings(1).then("person(2, 4)", "person(3, 3)");
        run.does("withdraw(0, 0, 2)").answers(3, "look(0, 0, 0)");
        run.then("check(0, 0, 1)").does("withdraw(0, 0, 2)").answers(3, "look(0, 0, 0)");
        Run released = run.then(Vaults.release(0, 0)).does("withdraw(0, 0, 0)");
        released.answers(NONE, "about(0, 1)");
        released.refuses(2, "withdraw(0, 0, 0)");
        run.then(Vaults.revise(0)).does("withdraw(0, 0, 2)").answers(0, "look(0, 1, 0)");
        run.refuses(1, "withdraw(0, 0, %)", 3, 16, -1, LOW, HIGH);
        run.refuses(7, "withdraw(0, %, 2)", 1, 12, -1, LOW, HIGH);
        run.refuses(7, "withdraw(%, 0, 2)", 1, 24, -1, LOW, HIGH);
        run.then(Vaults.release(0, 0)).then("baseline(0, 0)").refuses(5, "withdraw(0, 0, 2)");
        Vaults.full(0).refuses(8, "withdraw(16, 0, 0)");
    }

    private static void withdrawWhileItIsOut() {
        Checks.test("13: whether the drawing is out does not matter");
        Run run = Vaults.drawings(1).then("out(0, 1)", "resize(0, 1, 4)").does("withdraw(0, 0, 0)");
        run.answers(1, "about(0, 2)");
        run.answers(4, "about(0, 3)");
        run.does(1, "checkIn(0, 1)").answers(0, "look(0, 1, 0)");
    }

    // ---- promise 14 ----

    private static void baselineNumbers() {
        Checks.test("14: Baseline n (0 .. 9); 7 (also no such n)");
        Run run = Vaults.drawings(1).then(Vaults.release(0, 0));
        run.refuses(7, "baseline(%, 0)", -1, 10, LOW, HIGH);
        for (int n = 0; n < 10; n++) {
            run.answers(n, "count(6)");
            run = run.does(1, "baseline(" + n + ", 0)");
        }
        run.answers(10, "count(6)");
        run.refuses(7, "baseline(%, 0)", -1, 10, LOW, HIGH);
    }

    private static void baselineThereAlready() {
        Checks.test("14: 2 if it is there already");
        Run run = Vaults.drawings(2).then(Vaults.release(0, 0)).then(Vaults.release(1, 0));
        for (int n : new int[] {0, 9}) {
            Run made = run.does(1, "baseline(" + n + ", 0)");
            made.refuses(2, "baseline(" + n + ", 0)");
            made.refuses(2, "baseline(" + n + ", 1)");
            made.refuses(2, "baseline(" + n + ", %)", 2, -1, LOW, HIGH);
            made.does(1, "baseline(5, 0)");
        }
    }

    private static void baselineOfTheLatestReleased() {
        Checks.test("14: of a drawing's latest RELEASED revision; 2 if the drawing has no RELEASED one");
        Run run = Vaults.drawings(1);
        run.refuses(2, "baseline(0, 0)");
        run.then("check(0, 0, 1)").refuses(2, "baseline(0, 0)");
        run.then("withdraw(0, 0, 0)").refuses(2, "baseline(0, 0)");
        run.then(Vaults.release(0, 0)).then("withdraw(0, 0, 0)").refuses(2, "baseline(0, 0)");
        Run two = run.then(Vaults.release(0, 0)).then(Vaults.revise(0));
        two.does(1, "baseline(0, 0)").answers(0, "inBaseline(0, 0, 1)");
        two.then(Vaults.release(0, 1)).does(1, "baseline(0, 0)").answers(1, "inBaseline(0, 0, 1)");
        two.then("out(0, 1)").does(1, "baseline(0, 0)");
    }

    private static void baselineOfAllReached() {
        Checks.test("14: and all that it reaches by references: how many drawings");
        Run row = Vaults.row(24);
        row.does(1, "baseline(9, 0)");
        row.does(2, "baseline(9, 1)");
        Run all = row.does(24, "baseline(9, 23)");
        for (int k = 0; k < 24; k++) {
            all.answers(k, "inBaseline(9, " + k + ", 0)");
            all.answers(k == 0 ? 0 : 1, "inBaseline(9, " + k + ", 1)");
        }
        all.hasNone("inBaseline(9, 24, 0)");
        Run later = all.then(Vaults.revise(5)).then(Vaults.release(5, 2));
        later.answers(1, "inBaseline(9, 5, 1)");
        later.does(24, "baseline(0, 23)").answers(2, "inBaseline(0, 5, 1)");
        Run wide = Vaults.drawings(8);
        String[] refs = new String[6];
        for (int k = 0; k < 6; k++) {
            wide = wide.then(Vaults.release(k + 1, 0));
            refs[k] = "ref(0, 0, " + k + ", " + (6 - k) + ", " + (k % 2 == 0 ? 0 : NONE) + ")";
        }
        wide = wide.then("out(0, 0)").then(refs).then("checkIn(0, 0)").then(Vaults.release(0, 1));
        wide.does(7, "baseline(0, 0)").answers(6, "inBaseline(0, 6, 0)");
    }

    private static void baselineOfTwoRevisions() {
        Checks.test("14: 2 if two different revisions of one drawing are reached");
        Run run = Vaults.drawings(3).then(Vaults.release(2, 0)).then(Vaults.revise(2)).then(Vaults.release(2, 1));
        int[][] pairs = {{0, 0}, {1, 1}, {1, NONE}, {NONE, NONE}, {0, 1}, {0, NONE}, {NONE, 0}, {1, 0}};
        for (int i = 0; i < pairs.length; i++) {
            Run direct = run.then("out(0, 0)", "ref(0, 0, 0, 2, " + pairs[i][0] + ")")
                .then("ref(0, 0, 1, 2, " + pairs[i][1] + ")", "checkIn(0, 0)").then(Vaults.release(0, 1));
            Run byAnother = run.then(Vaults.refer(1, 0, 2, pairs[i][0])).then(Vaults.release(1, 1))
                .then("out(0, 0)", "ref(0, 0, 0, 1, NONE)", "ref(0, 0, 1, 2, " + pairs[i][1] + ")")
                .then("checkIn(0, 0)").then(Vaults.release(0, 1));
            if (i < 4) {
                direct.does(2, "baseline(0, 0)");
                byAnother.does(3, "baseline(0, 0)");
            } else {
                direct.refuses(2, "baseline(0, 0)");
                byAnother.refuses(2, "baseline(0, 0)");
            }
        }
    }

    /** Older revisions may refer in a round: only the newest ones may not. */
    private static void baselineOfTwoRevisionsOfItself() {
        Checks.test("14: 2 if another revision of the drawing itself is reached");
        Run run = Vaults.drawings(2).then(Vaults.release(0, 0));
        Run fixed = run.then(Vaults.refer(1, 0, 0, 0)).then(Vaults.release(1, 1))
            .then("out(1, 0)", "drop(1, 0, 0)", "checkIn(1, 0)").then(Vaults.refer(0, 0, 1, 1))
            .then(Vaults.release(0, 1));
        fixed.answers(1, "about(0, 1)");
        fixed.refuses(2, "baseline(0, 0)");
        Run round = run.then(Vaults.refer(1, 0, 0, NONE)).then(Vaults.release(1, 1))
            .then("out(1, 0)", "drop(1, 0, 0)", "checkIn(1, 0)").then(Vaults.refer(0, 0, 1, 1))
            .then(Vaults.release(0, 1));
        round.does(2, "baseline(0, 0)").answers(1, "inBaseline(0, 0, 1)");
    }

    private static void baselineUnreleased() {
        Checks.test("14: 4 (of a reference of what is reached)");
        Run row = Vaults.row(4);
        row.does(4, "baseline(0, 3)");
        row.then("withdraw(2, 1, 0)").refuses(4, "baseline(0, 3)");
        row.then("withdraw(1, 1, 0)").refuses(4, "baseline(0, 3)");
        row.then("withdraw(0, 0, 0)").refuses(4, "baseline(0, 3)");
        row.then("withdraw(3, 1, 0)").refuses(2, "baseline(0, 3)");
        row.then("withdraw(2, 1, 0)").does(2, "baseline(0, 1)");
        Run later = row.then("withdraw(0, 0, 0)").then(Vaults.revise(0)).then(Vaults.release(0, 1));
        later.does(4, "baseline(0, 3)").answers(1, "inBaseline(0, 0, 1)");
    }

    private static void baselineOfNoDrawing() {
        Checks.test("14: 7; 8");
        Run run = Vaults.drawings(1).then(Vaults.release(0, 0));
        run.refuses(7, "baseline(0, %)", 1, 23, 24, -1, LOW, HIGH);
        run.refuses(7, "baseline(10, %)", 1, -1, LOW, HIGH);
        Vaults.full(1).refuses(8, "baseline(1, 18)");
    }

    private static void baselineRefusedLeavesNothing() {
        Checks.test("14: what was refused is not in the next one");
        Run row = Vaults.row(4).then("drawing(0)").then(Vaults.release(4, 0));
        Run unreleased = row.then("withdraw(1, 1, 0)");
        String[] refused = {"baseline(0, 3)", "baseline(10, 3)", "baseline(0, 1)", "baseline(0, 9)"};
        for (String call : refused) {
            Run next = unreleased.then(call).does(1, "baseline(0, 4)");
            next.answers(4, "inBaseline(0, 0, 0)");
            next.answers(1, "inBaseline(0, NONE, 0)");
        }
        Run wrong = row.then("baseline(-1, 3)").does(1, "baseline(0, 4)");
        wrong.answers(4, "inBaseline(0, 0, 0)");
        Run again = row.then("baseline(0, 4)", "baseline(0, 3)").does(4, "baseline(1, 3)");
        again.answers(3, "inBaseline(1, 3, 0)");
        again.answers(4, "inBaseline(0, 0, 0)");
    }
}
