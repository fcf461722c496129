/** "REASONS, of which the least one that is so refuses": of each call, each two that can be so at once. */
public final class ReasonsTest {
    private static final int NONE = DrawingVault.NONE;

    /** No page is left, and copying forward would leave less than 40. */
    private static final Run FULL = Vaults.full(0);

    /** Person 5 has no right; drawing 0 is out with person 0, drawing 1 with person 1, 2 is not out. */
    private static final Run OUT = Vaults.drawings(3).then("out(0, 0)", "out(1, 1)", "resize(0, 0, 8)");

    public static void main(String[] args) {
        ofPerson();
        ofDrawing();
        ofOut();
        ofUndo();
        ofPut();
        ofResize();
        ofRef();
        ofDrop();
        ofCheckIn();
        ofCheckInWithoutPages();
        ofCheck();
        ofRelease();
        ofWithdraw();
        ofBaseline();
        right();
        state();
        same();
        unreleased();
        inUseByABaseline();
        inUseByAFixedReference();
        loop();
        noneSuch();
        room();
        roomByPages();
        Checks.end();
    }

    // ---- two reasons at once ----

    private static void ofPerson() {
        Checks.test("person(), the least reason");
        FULL.refuses(7, "person(16, 1)");
        FULL.refuses(7, "person(0, 8)");
        FULL.refuses(7, "person(-1, -1)");
    }

    private static void ofDrawing() {
        Checks.test("drawing(), the least reason");
        FULL.refuses(1, "drawing(5)");
        FULL.refuses(1, "drawing(16)");
        Vaults.drawings(24).refuses(1, "drawing(5)");
    }

    private static void ofOut() {
        Checks.test("out(), the least reason");
        OUT.refuses(1, "out(0, 5)");
        OUT.refuses(1, "out(3, 5)");
        FULL.refuses(1, "out(14, 5)");
        FULL.refuses(2, "out(15, 1)");
        FULL.refuses(7, "out(23, 1)");
    }

    private static void ofUndo() {
        Checks.test("undo(), the least reason");
        OUT.refuses(1, "undo(0, 5)");
        OUT.refuses(1, "undo(2, 5)");
        OUT.refuses(1, "undo(3, 5)");
        FULL.refuses(1, "undo(15, 5)");
        FULL.refuses(2, "undo(15, 1)");
        FULL.refuses(2, "undo(14, 1)");
        FULL.refuses(7, "undo(23, 1)");
    }

    private static void ofPut() {
        Checks.test("put(), the least reason");
        OUT.refuses(1, "put(0, 5, 0, 1)");
        OUT.refuses(1, "put(0, 5, 8, 1)");
        OUT.refuses(1, "put(3, 5, 0, 1)");
        OUT.refuses(2, "put(0, 1, 8, 1)");
        OUT.refuses(2, "put(0, 1, 0, 256)");
        OUT.refuses(2, "put(2, 1, -1, -1)");
    }

    private static void ofResize() {
        Checks.test("resize(), the least reason");
        OUT.refuses(1, "resize(0, 5, 1)");
        OUT.refuses(1, "resize(0, 5, 65)");
        OUT.refuses(1, "resize(3, 5, 1)");
        OUT.refuses(2, "resize(0, 1, 65)");
        OUT.refuses(2, "resize(2, 1, -1)");
    }

    private static void ofRef() {
        Checks.test("ref(), the least reason");
        OUT.refuses(1, "ref(0, 5, 0, 1, 0)");
        OUT.refuses(1, "ref(0, 5, 1, 3, -2)");
        OUT.refuses(1, "ref(3, 5, 0, 1, 0)");
        OUT.refuses(2, "ref(0, 1, 1, 1, 0)");
        OUT.refuses(2, "ref(0, 1, 0, 3, 0)");
        OUT.refuses(2, "ref(2, 1, 0, 1, -2)");
        Run six = OUT;
        for (int k = 0; k < 6; k++) {
            six = six.then("ref(0, 0, " + k + ", 2, NONE)");
        }
        six.refuses(1, "ref(0, 5, 6, 2, NONE)");
        six.refuses(2, "ref(0, 1, 6, 2, NONE)");
        six.refuses(7, "ref(0, 0, 6, 3, NONE)");
        six.refuses(7, "ref(0, 0, 6, 2, -2)");
        six.refuses(8, "ref(0, 0, 6, 2, NONE)");
    }

    private static void ofDrop() {
        Checks.test("drop(), the least reason");
        Run one = OUT.then("ref(0, 0, 0, 2, NONE)");
        one.refuses(1, "drop(0, 5, 0)");
        one.refuses(1, "drop(0, 5, 1)");
        one.refuses(1, "drop(3, 5, 0)");
        one.refuses(2, "drop(0, 1, 1)");
        one.refuses(2, "drop(2, 1, -1)");
    }

    private static void ofCheckIn() {
        Checks.test("checkIn(), the least reason");
        Run loop = OUT.then("ref(0, 0, 0, 0, NONE)");
        Run away = OUT.then("ref(0, 0, 0, 2, 1)");
        Run both = OUT.then("ref(0, 0, 0, 2, 1)", "ref(0, 0, 1, 0, NONE)");
        OUT.refuses(1, "checkIn(0, 5)");
        OUT.refuses(1, "checkIn(3, 5)");
        for (Run run : new Run[] {loop, away, both}) {
            run.refuses(2, "checkIn(0, 1)");
            run.then("person(0, 0)").refuses(1, "checkIn(0, 0)");
        }
        loop.refuses(6, "checkIn(0, 0)");
        away.refuses(7, "checkIn(0, 0)");
        both.refuses(6, "checkIn(0, 0)");
        Run twelve = Vaults.drawings(2).times(11, Vaults.revise(0)).then("out(0, 0)");
        twelve.refuses(1, "checkIn(0, 5)");
        twelve.refuses(2, "checkIn(0, 1)");
        twelve.then("ref(0, 0, 0, 0, NONE)").refuses(6, "checkIn(0, 0)");
        twelve.then("ref(0, 0, 0, 1, 1)").refuses(7, "checkIn(0, 0)");
        twelve.then("ref(0, 0, 0, 1, 0)").refuses(8, "checkIn(0, 0)");
    }

    private static void ofCheckInWithoutPages() {
        Checks.test("checkIn(), the least reason without pages");
        FULL.refuses(1, "checkIn(15, 5)");
        FULL.refuses(2, "checkIn(15, 1)");
        FULL.refuses(2, "checkIn(14, 0)");
        FULL.then("ref(15, 0, 0, 15, NONE)").refuses(6, "checkIn(15, 0)");
        FULL.then("ref(15, 0, 0, 14, 1)").refuses(7, "checkIn(15, 0)");
        FULL.refuses(7, "checkIn(23, 0)");
        FULL.refuses(8, "checkIn(15, 0)");
    }

    private static void ofCheck() {
        Checks.test("check(), the least reason");
        Run run = Vaults.drawings(1).then(Vaults.revise(0)).then("person(2, 5)", "person(0, 5)");
        run.refuses(1, "check(0, 0, 2)");
        run.refuses(1, "check(0, 1, 0)");
        run.refuses(1, "check(0, 2, 2)");
        run.refuses(1, "check(1, 0, 2)");
        run.then("out(0, 0)").refuses(1, "check(0, 1, 2)");
        Run may = run.then("person(0, 7)");
        may.refuses(2, "check(0, 0, 0)");
        may.then("check(0, 1, 1)").refuses(2, "check(0, 1, 0)");
        may.then("out(0, 0)").refuses(2, "check(0, 1, 0)");
        may.then("out(0, 0)").refuses(2, "check(0, 2, 1)");
        FULL.refuses(1, "check(16, 0, 5)");
        FULL.refuses(2, "check(17, 0, 1)");
        FULL.refuses(2, "check(15, 0, 1)");
        FULL.refuses(2, "check(0, 0, 1)");
        FULL.refuses(3, "check(16, 0, 0)");
        FULL.refuses(7, "check(16, 1, 1)");
        FULL.refuses(7, "check(23, 0, 1)");
        FULL.refuses(8, "check(16, 0, 1)");
    }

    private static void ofRelease() {
        Checks.test("release(), the least reason");
        Run run = Vaults.drawings(2).then(Vaults.refer(0, 0, 1, NONE)).then("person(2, 3)");
        run.refuses(1, "release(0, 1, 2)");
        run.refuses(1, "release(0, 2, 2)");
        run.refuses(2, "release(0, 1, 0)");
        run.then("check(0, 1, 1)").refuses(1, "release(0, 1, 2)");
        run.then("check(0, 1, 1)").refuses(4, "release(0, 1, 0)");
        FULL.refuses(1, "release(17, 0, 5)");
        FULL.refuses(2, "release(16, 0, 1)");
        FULL.refuses(2, "release(18, 0, 1)");
        FULL.refuses(4, "release(20, 1, 1)");
        FULL.refuses(7, "release(17, 1, 1)");
        FULL.refuses(7, "release(23, 0, 1)");
        FULL.refuses(8, "release(17, 0, 1)");
    }

    private static void ofWithdraw() {
        Checks.test("withdraw(), the least reason");
        Run run = Vaults.drawings(2).then(Vaults.release(1, 0))
            .then("baseline(0, 1)", "withdraw(0, 0, 0)", "person(2, 3)");
        run.refuses(1, "withdraw(0, 0, 2)");
        run.refuses(1, "withdraw(1, 0, 2)");
        run.refuses(1, "withdraw(1, 1, 2)");
        FULL.refuses(1, "withdraw(16, 0, 5)");
        FULL.refuses(2, "withdraw(21, 0, 1)");
        FULL.refuses(5, "withdraw(18, 0, 1)");
        FULL.refuses(7, "withdraw(16, 1, 1)");
        FULL.refuses(7, "withdraw(23, 0, 1)");
        FULL.refuses(8, "withdraw(16, 0, 1)");
    }

    private static void ofBaseline() {
        Checks.test("baseline(), the least reason");
        FULL.refuses(2, "baseline(0, 17)");
        FULL.refuses(2, "baseline(0, 18)");
        FULL.refuses(2, "baseline(0, 22)");
        FULL.refuses(2, "baseline(0, 23)");
        FULL.refuses(2, "baseline(1, 17)");
        FULL.refuses(2, "baseline(10, 17)");
        FULL.refuses(4, "baseline(1, 22)");
        FULL.refuses(4, "baseline(10, 22)");
        FULL.refuses(7, "baseline(10, 18)");
        FULL.refuses(7, "baseline(1, 23)");
        FULL.refuses(8, "baseline(1, 18)");
        Run two = Vaults.drawings(4).then(Vaults.release(3, 0))
            .then(Vaults.refer(2, 0, 3, 0)).then(Vaults.release(2, 1))
            .then(Vaults.revise(3)).then(Vaults.release(3, 1)).then(Vaults.release(1, 0))
            .then("out(0, 0)", "ref(0, 0, 0, 1, NONE)", "ref(0, 0, 1, 2, 1)", "ref(0, 0, 2, 3, 1)", "checkIn(0, 0)")
            .then(Vaults.release(0, 1));
        two.refuses(2, "baseline(0, 0)");
        two.refuses(2, "baseline(10, 0)");
        two.then("withdraw(1, 0, 0)").refuses(2, "baseline(0, 0)");
    }

    // ---- what each reason is ----

    private static void right() {
        Checks.test("1 RIGHT: they lack the right (of out() to checkIn(): have none at all)");
        Run run = OUT.then("person(5, 6)", "person(6, 5)", "person(7, 3)");
        run.refuses(1, "drawing(5)");
        run.refuses(1, "check(2, 0, 6)");
        run.refuses(1, "withdraw(2, 0, 7)");
        run.then("check(2, 0, 1)").refuses(1, "release(2, 0, 7)");
        for (int rights : new int[] {1, 2, 4}) {
            OUT.then("person(5, " + rights + ")").does("out(2, 5)").does(1, "checkIn(2, 5)");
        }
        OUT.refuses(1, "out(2, 5)");
    }

    private static void state() {
        Checks.test("2 STATE: (where that is said) the drawing is out, or is not out with that person");
        OUT.refuses(2, "out(0, 1)");
        OUT.refuses(2, "check(0, 0, 1)");
        for (String drawing : new String[] {"1", "2"}) {
            OUT.refuses(2, "undo(" + drawing + ", 0)");
            OUT.refuses(2, "put(" + drawing + ", 0, 0, 0)");
            OUT.refuses(2, "resize(" + drawing + ", 0, 0)");
            OUT.refuses(2, "ref(" + drawing + ", 0, 0, 0, NONE)");
            OUT.refuses(2, "drop(" + drawing + ", 0, 0)");
            OUT.refuses(2, "checkIn(" + drawing + ", 0)");
        }
        OUT.does("withdraw(0, 0, 0)");
        OUT.then("undo(0, 0)", "check(0, 0, 1)", "out(0, 0)").does("release(0, 0, 0)").does(1, "baseline(0, 0)");
    }

    private static void same() {
        Checks.test("3 SAME: the checker is the author");
        Run run = Vaults.drawings(1).then("out(0, 1)", "checkIn(0, 1)");
        run.refuses(3, "check(0, 1, 1)");
        run.does("check(0, 1, 0)");
        Vaults.drawings(1).refuses(3, "check(0, 0, 0)");
        run.then("check(0, 1, 0)").does("release(0, 1, 1)").does("withdraw(0, 1, 1)");
    }

    private static void unreleased() {
        Checks.test("4 UNRELEASED: a reference does not resolve to a RELEASED revision");
        Run run = Vaults.drawings(3).then(Vaults.revise(1)).then(Vaults.release(2, 0));
        for (int revision : new int[] {NONE, 1}) {
            Run checked = checkedWith(run, revision);
            checked.refuses(4, "release(0, 1, 0)");
            checked.then("check(1, 1, 1)").refuses(4, "release(0, 1, 0)");
            checked.then("check(1, 1, 1)", "release(1, 1, 0)").does("release(0, 1, 0)");
            checked.then("withdraw(1, 1, 0)").refuses(4, "release(0, 1, 0)");
            checked.then("check(1, 1, 1)", "release(1, 1, 0)", "withdraw(1, 1, 0)").refuses(4, "release(0, 1, 0)");
        }
        checkedWith(run.then(Vaults.release(1, 1)), 0).refuses(4, "release(0, 1, 0)");
    }

    /** 0/1 is CHECKED and refers to drawing 2 and to that revision of drawing 1. */
    private static Run checkedWith(Run run, int revision) {
        return run.then("out(0, 0)", "ref(0, 0, 0, 2, NONE)", "ref(0, 0, 1, 1, " + revision + ")", "checkIn(0, 0)",
            "check(0, 1, 1)");
    }

    private static void inUseByABaseline() {
        Checks.test("5 IN USE: a baseline names it");
        Run run = Vaults.drawings(24).then(Vaults.release(0, 0)).then(Vaults.release(23, 0));
        for (int n : new int[] {0, 9}) {
            run.then("baseline(" + n + ", 0)").refuses(5, "withdraw(0, 0, 0)");
            run.then("baseline(" + n + ", 23)").refuses(5, "withdraw(23, 0, 0)");
            run.then("baseline(" + n + ", 23)").does("withdraw(0, 0, 0)");
        }
        run.does("withdraw(0, 0, 0)");
        Run newer = run.then(Vaults.revise(0)).then(Vaults.release(0, 1)).then("baseline(0, 0)");
        newer.refuses(5, "withdraw(0, 1, 0)");
        newer.does("withdraw(0, 0, 0)");
        Run reached = run.then(Vaults.refer(23, 0, 0, NONE)).then(Vaults.release(23, 1)).then("baseline(0, 23)");
        reached.refuses(5, "withdraw(0, 0, 0)");
    }

    private static void inUseByAFixedReference() {
        Checks.test("5 IN USE: a fixed reference of a RELEASED revision names it");
        Run run = Vaults.drawings(24).then(Vaults.release(1, 0)).then(Vaults.revise(1)).then(Vaults.release(1, 1));
        for (int from : new int[] {0, 23}) {
            Run work = run.then(Vaults.refer(from, 0, 1, 0));
            work.does("withdraw(1, 0, 0)");
            Run checked = work.then("check(" + from + ", 1, 1)");
            checked.does("withdraw(1, 0, 0)");
            Run released = checked.then("release(" + from + ", 1, 0)");
            released.refuses(5, "withdraw(1, 0, 0)");
            released.does("withdraw(1, 1, 0)");
            released.then("withdraw(" + from + ", 1, 0)").does("withdraw(1, 0, 0)");
            released.then(Vaults.revise(from)).refuses(5, "withdraw(1, 0, 0)");
        }
        Run latest = run.then(Vaults.refer(0, 0, 1, NONE)).then(Vaults.release(0, 1));
        latest.does("withdraw(1, 1, 0)");
        Run sixth = run.then("out(0, 0)");
        for (int k = 0; k < 6; k++) {
            sixth = sixth.then("ref(0, 0, " + k + ", 1, " + (k == 5 ? 0 : NONE) + ")");
        }
        sixth.then("checkIn(0, 0)").then(Vaults.release(0, 1)).refuses(5, "withdraw(1, 0, 0)");
    }

    private static void loop() {
        Checks.test("6 LOOP: a drawing would come to use itself");
        Run run = Vaults.drawings(3).then(Vaults.refer(0, 0, 1, NONE)).then("out(1, 0)");
        run.then("ref(1, 0, 0, 0, NONE)").refuses(6, "checkIn(1, 0)");
        run.then("ref(1, 0, 0, 1, NONE)").refuses(6, "checkIn(1, 0)");
        run.then("ref(1, 0, 0, 2, NONE)").does(1, "checkIn(1, 0)");
    }

    private static void noneSuch() {
        Checks.test("7 NONE SUCH: (of references: a target that is none, or a fixed revision that is not there)");
        OUT.refuses(7, "ref(0, 0, 0, %, 0)", -1, 3, Integer.MIN_VALUE, Integer.MAX_VALUE);
        OUT.does("ref(0, 0, 0, 2, 0)").does(1, "checkIn(0, 0)");
        OUT.does("ref(0, 0, 0, 2, 1)").refuses(7, "checkIn(0, 0)");
        OUT.does("ref(0, 0, 0, 2, HIGH)").refuses(7, "checkIn(0, 0)");
        OUT.then("ref(0, 0, 0, 2, 1)").then(Vaults.revise(2)).does(1, "checkIn(0, 0)");
    }

    private static void room() {
        Checks.test("8 ROOM: there are as many revisions, references or drawings as there may be");
        Vaults.drawings(24).refuses(8, "drawing(0)");
        Vaults.drawings(1).times(11, Vaults.revise(0)).then("out(0, 0)").refuses(8, "checkIn(0, 0)");
        OUT.times(6, "ref(0, 0, 0, 2, NONE)").does("ref(0, 0, 1, 2, NONE)");
        Run five = OUT;
        for (int k = 0; k < 5; k++) {
            five = five.then("ref(0, 0, " + k + ", 2, NONE)");
        }
        five.does("ref(0, 0, 5, 2, NONE)").refuses(8, "ref(0, 0, 6, 2, NONE)");
    }

    private static void roomByPages() {
        Checks.test("8 ROOM: (of a command that writes) too few pages");
        FULL.refuses(8, "person(0, 7)");
        FULL.refuses(8, "drawing(0)");
        FULL.refuses(8, "out(14, 0)");
        FULL.refuses(8, "undo(15, 0)");
        FULL.does("resize(15, 0, 8)").does("put(15, 0, 7, 1)").does("ref(15, 0, 0, 14, NONE)").does("drop(15, 0, 0)");
    }
}
