/** Promises 15 to 21 and 24, sentence by sentence: what a question answers at its edges, and when it throws. */
public final class QuestionEdgesTest {
    private static final int NONE = DrawingVault.NONE;
    private static final int LOW = Integer.MIN_VALUE;
    private static final int HIGH = Integer.MAX_VALUE;

    /**
     * 0/0 is empty, and 0/1 of person 1 has 64 bytes, 1 to 64, and six references; drawing 1 is out with
     * person 0, with 64 bytes and six references; drawing 2 is out with nothing; 3 is not out.
     */
    private static final Run ASKED = asked();

    public static void main(String[] args) {
        whyOfTheLatestCall();
        whyOfWhatThrew();
        whyIsLeftByOthers();
        lookAtWhat();
        lookAtNone();
        lookAtBytes();
        referenceOfWhat();
        referenceOfNone();
        aboutWhat();
        aboutWithoutACopy();
        aboutNone();
        inBaselineByNumbers();
        inBaselineOfNone();
        userByNumbers();
        userByOthers();
        userOfNone();
        differenceAtEachPlace();
        differenceNotInBoth();
        differenceOfNone();
        countOfWhat();
        countOfNone();
        questionsChangeNothing();
        Checks.end();
    }

    private static Run asked() {
        Run run = Vaults.drawings(8);
        for (int d = 0; d < 2; d++) {
            String with = "(" + d + ", " + (1 - d) + ", ";
            run = run.then("out(" + d + ", " + (1 - d) + ")", "resize" + with + "64)");
            for (int at = 0; at < 64; at++) {
                run = run.then("put" + with + at + ", " + (at + 1) + ")");
            }
            for (int k = 0; k < 6; k++) {
                run = run.then("ref" + with + k + ", " + (2 + k) + ", " + (k % 2 == 0 ? NONE : 0) + ")");
            }
        }
        return run.then("checkIn(0, 1)", "out(2, 1)");
    }

    // ---- promise 15 ----

    private static void whyOfTheLatestCall() {
        Checks.test("15: The reason why the latest call above was refused; 0 if it was not");
        Run run = ASKED;
        run.answers(0, "why()");
        String[] refused = {
            "person(16, 0)", "drawing(5)", "out(1, 1)", "undo(2, 0)", "put(2, 1, 0, 0)", "resize(2, 1, 65)",
            "ref(1, 0, 6, 2, 0)", "drop(2, 1, 0)", "checkIn(3, 0)", "check(3, 0, 0)", "release(3, 0, 0)",
            "withdraw(3, 1, 0)", "baseline(0, 3)",
        };
        int[] reasons = {7, 1, 2, 2, 7, 7, 8, 7, 2, 3, 2, 7, 2};
        String[] done = {
            "person(15, 0)", "drawing(0)", "out(3, 1)", "undo(1, 0)", "put(1, 0, 0, 0)", "resize(2, 1, 64)",
            "ref(1, 0, 5, 2, 0)", "drop(1, 0, 0)", "checkIn(1, 0)", "check(3, 0, 1)", "withdraw(3, 0, 0)",
        };
        for (int i = 0; i < refused.length; i++) {
            Run no = run.then(refused[i]);
            Checks.due(refused[i] + ", why()", no.ask("why()"), reasons[i]);
            no.then("why()").answers(reasons[i], "why()");
            for (String call : done) {
                Checks.due(refused[i] + " " + call + ", why()", no.then(call).ask("why()"), 0);
            }
        }
        run.then("check(3, 0, 1)", "drawing(5)", "release(3, 0, 0)").answers(0, "why()");
        run.then("check(3, 0, 1)", "release(3, 0, 0)", "drawing(5)", "baseline(0, 3)").answers(0, "why()");
        run.then("drawing(5)", "baseline(0, 3)").answers(2, "why()");
    }

    private static void whyOfWhatThrew() {
        Checks.test("15: (one that threw does not count)");
        Run refused = ASKED.then("drawing(5)", "failAfter(0)");
        refused.then("person(0, 7)").answers(1, "why()");
        refused.then("person(0, 7)", "person(16, 0)").answers(1, "why()");
        refused.then("person(0, 7)", "start()").answers(1, "why()");
        ASKED.then("failAfter(0)", "person(0, 7)", "out(9, 9)").answers(0, "why()");
        ASKED.then("drawing(5)", "look(9, 9, 9)").answers(1, "why()");
    }

    private static void whyIsLeftByOthers() {
        Checks.test("15: calls below are none of the calls above");
        Run refused = ASKED.then("drawing(5)");
        String[] others = {
            "look(0, 0, 0)", "reference(0, 1, 0, 0)", "about(0, 0)", "inBaseline(0, 0, 0)", "user(0, true, 0)",
            "difference(0, 0, 1, 0)", "failAfter(9)", "failAfter(-1)", "start()", "count(0)", "look(0, 0, 8)",
            "reference(0, 0, 0, 0)", "about(8, 0)", "user(8, true, 0)", "difference(0, 0, 2, 0)", "count(8)",
        };
        for (String other : others) {
            refused.then(other).answers(1, "why()");
        }
    }

    // ---- promise 16 ----

    private static void lookAtWhat() {
        Checks.test("16: what 0: its state, 1: its author, 2: how many bytes, 3: references, 4: chunks");
        int[] empty = {0, 0, 0, 0, 0};
        int[] full = {0, 1, 64, 6, 8};
        for (int what = 0; what < 5; what++) {
            ASKED.answers(empty[what], "look(0, 0, " + what + ")");
            ASKED.answers(full[what], "look(0, 1, " + what + ")");
        }
        ASKED.then("withdraw(0, 1, 0)").answers(3, "look(0, 1, 0)");
    }

    private static void lookAtNone() {
        Checks.test("16: IndexOutOfBoundsException if there is no such one, byte or what");
        ASKED.hasNone("look(%, 0, 0)", -1, 8, 24, LOW, HIGH);
        ASKED.hasNone("look(0, %, 0)", -1, 2, 12, LOW, HIGH);
        ASKED.hasNone("look(1, %, 0)", -1, 1, LOW, HIGH);
        ASKED.hasNone("look(0, 1, %)", -1, 5, 6, 7, 72, 200, LOW, LOW + 7, LOW + 8, HIGH);
        ASKED.hasNone("look(0, 0, %)", -1, 5, 6, 7, 8, 72, LOW, LOW + 8, HIGH);
    }

    private static void lookAtBytes() {
        Checks.test("16: from 8 on byte what - 8");
        for (int at = 0; at < 64; at++) {
            ASKED.answers(at + 1, "look(0, 1, " + (8 + at) + ")");
        }
        for (int bytes : new int[] {1, 7, 8, 9, 63}) {
            Run cut = ASKED.then("resize(1, 0, " + bytes + ")", "checkIn(1, 0)");
            cut.answers(bytes, "look(1, 1, " + (7 + bytes) + ")");
            cut.hasNone("look(1, 1, %)", 7, 8 + bytes, 72);
        }
    }

    // ---- promise 17 ----

    private static void referenceOfWhat() {
        Checks.test("17: what 0: its drawing, 1: its revision or NONE, 2: what it resolves to now");
        for (int k = 0; k < 6; k++) {
            ASKED.answers(2 + k, "reference(0, 1, " + k + ", 0)");
            ASKED.answers(k % 2 == 0 ? NONE : 0, "reference(0, 1, " + k + ", 1)");
            ASKED.answers(k % 2 == 0 ? NONE : 0, "reference(0, 1, " + k + ", 2)");
        }
        ASKED.then("check(4, 0, 1)", "release(4, 0, 1)").answers(0, "reference(0, 1, 2, 2)");
        ASKED.then("withdraw(3, 0, 1)").answers(0, "reference(0, 1, 1, 2)");
    }

    private static void referenceOfNone() {
        Checks.test("17: IndexOutOfBoundsException if there is none such");
        ASKED.hasNone("reference(%, 0, 0, 0)", -1, 8, 24, LOW, HIGH);
        ASKED.hasNone("reference(0, %, 0, 0)", -1, 0, 2, 12, LOW, HIGH);
        ASKED.hasNone("reference(0, 1, %, 0)", -1, 6, 7, LOW, HIGH);
        ASKED.hasNone("reference(0, 1, 5, %)", -1, 3, 8, LOW, HIGH);
        ASKED.hasNone("reference(1, 0, 0, 0)");
    }

    // ---- promise 18 ----

    private static void aboutWhat() {
        Checks.test("18: newest, latest RELEASED, whom it is out with, bytes, references, and each of them");
        int[] out = {0, NONE, 0, 64, 6};
        for (int what = 0; what < 5; what++) {
            ASKED.answers(out[what], "about(1, " + what + ")");
        }
        for (int at = 0; at < 64; at++) {
            ASKED.answers(at + 1, "about(1, " + (8 + at) + ")");
        }
        for (int k = 0; k < 6; k++) {
            ASKED.answers(2 + k, "about(1, " + (200 + 2 * k) + ")");
            ASKED.answers(k % 2 == 0 ? NONE : 0, "about(1, " + (201 + 2 * k) + ")");
        }
        ASKED.answers(1, "about(0, 0)");
        ASKED.then("check(0, 1, 0)").answers(NONE, "about(0, 1)");
        ASKED.then("check(3, 0, 1)", "release(3, 0, 0)").answers(0, "about(3, 1)");
    }

    private static void aboutWithoutACopy() {
        Checks.test("18: (0 without)");
        int[] without = {1, NONE, NONE, 0, 0};
        for (int what = 0; what < 5; what++) {
            ASKED.answers(without[what], "about(0, " + what + ")");
        }
        ASKED.hasNone("about(0, %)", 8, 71, 200, 201, 211);
        ASKED.answers(1, "about(2, 2)");
        ASKED.answers(0, "about(2, 3)");
        ASKED.hasNone("about(2, %)", 8, 200, 201);
    }

    private static void aboutNone() {
        Checks.test("18: IndexOutOfBoundsException if there is no such one or what");
        ASKED.hasNone("about(%, 0)", -1, 8, 24, LOW, HIGH);
        ASKED.hasNone("about(1, %)", -1, 5, 6, 7, 72, 199, 212, 213, LOW, LOW + 8, LOW + 199, LOW + 200, HIGH);
        Run less = ASKED.then("resize(1, 0, 9)", "drop(1, 0, 0)");
        less.answers(9, "about(1, 16)");
        less.answers(0, "about(1, 201)");
        less.hasNone("about(1, %)", 17, 71, 210, 211);
    }

    // ---- promise 19 ----

    private static void inBaselineByNumbers() {
        Checks.test("19: Of the k-th drawing of a baseline, by numbers; for k = NONE what 0: how many");
        Run run = Vaults.drawings(24).then(Vaults.release(23, 0)).then(Vaults.release(0, 0)).then(Vaults.revise(5))
            .then(Vaults.release(5, 1)).then("out(9, 0)", "ref(9, 0, 0, 23, 0)", "ref(9, 0, 1, 5, NONE)")
            .then("ref(9, 0, 2, 0, NONE)", "checkIn(9, 0)").then(Vaults.release(9, 1));
        for (int n : new int[] {0, 9}) {
            Run made = run.does(4, "baseline(" + n + ", 9)");
            made.answers(4, "inBaseline(" + n + ", NONE, 0)");
            int[] drawings = {0, 5, 9, 23};
            int[] revisions = {0, 1, 1, 0};
            for (int k = 0; k < 4; k++) {
                made.answers(drawings[k], "inBaseline(" + n + ", " + k + ", 0)");
                made.answers(revisions[k], "inBaseline(" + n + ", " + k + ", 1)");
            }
            made.hasNone("inBaseline(" + n + ", %, 0)", -2, 4, 23, 24, LOW, HIGH);
        }
    }

    private static void inBaselineOfNone() {
        Checks.test("19: IndexOutOfBoundsException if there is none such");
        Run run = Vaults.drawings(1).then(Vaults.release(0, 0)).then("baseline(4, 0)");
        run.answers(1, "inBaseline(4, NONE, 0)");
        run.hasNone("inBaseline(%, 0, 0)", -1, 0, 3, 5, 9, 10, LOW, HIGH);
        run.hasNone("inBaseline(%, NONE, 0)", -1, 0, 10, LOW, HIGH);
        run.hasNone("inBaseline(4, %, 0)", -2, 1, LOW, HIGH);
        run.hasNone("inBaseline(4, %, 1)", -1, -2, 1, LOW, HIGH);
        run.hasNone("inBaseline(4, 0, %)", -1, 2, LOW, HIGH);
        run.hasNone("inBaseline(4, NONE, %)", -1, 1, 2, LOW, HIGH);
    }

    // ---- promise 20 ----

    private static void userByNumbers() {
        Checks.test("20: The k-th drawing, by numbers, that uses a drawing; NONE if there is none");
        Run run = Vaults.drawings(24);
        for (int d : new int[] {23, 4, 0, 17}) {
            run = run.then(Vaults.refer(d, 0, 9, d == 4 ? 0 : NONE));
        }
        int[] users = {0, 4, 17, 23};
        for (String all : new String[] {"false", "true"}) {
            for (int k = 0; k < 4; k++) {
                run.answers(users[k], "user(9, " + all + ", " + k + ")");
            }
            run.answers(NONE, "user(9, " + all + ", %)", -1, 4, 5, 24, LOW, HIGH);
            run.answers(NONE, "user(0, " + all + ", 0)");
            run.answers(NONE, "user(23, " + all + ", 0)");
        }
        Run twice = Vaults.drawings(2)
            .then("out(0, 0)", "ref(0, 0, 0, 1, 0)", "ref(0, 0, 1, 1, NONE)", "checkIn(0, 0)");
        twice.answers(0, "user(1, false, 0)");
        twice.answers(NONE, "user(1, false, 1)");
        twice.answers(NONE, "user(1, true, 1)");
    }

    private static void userByOthers() {
        Checks.test("20: or, with all, also by others");
        Run row = Vaults.row(24);
        for (int d = 0; d < 24; d++) {
            row.answers(d < 23 ? d + 1 : NONE, "user(" + d + ", false, 0)");
            row.answers(NONE, "user(" + d + ", false, 1)");
            row.answers(d < 23 ? 23 : NONE, "user(" + d + ", true, " + (22 - d) + ")");
            row.answers(NONE, "user(" + d + ", true, " + (23 - d) + ")");
        }
        Run up = Vaults.drawings(24);
        for (int d = 0; d < 23; d++) {
            up = up.then(Vaults.refer(d, 0, d + 1, 0));
        }
        for (int k = 0; k < 23; k++) {
            up.answers(k, "user(23, true, " + k + ")");
        }
        up.answers(NONE, "user(23, true, 23)");
        up.answers(22, "user(23, false, 0)");
        Run both = Vaults.drawings(4).then(Vaults.refer(1, 0, 0, NONE)).then(Vaults.refer(2, 0, 0, NONE))
            .then("out(3, 0)", "ref(3, 0, 0, 1, 0)", "ref(3, 0, 1, 2, 0)", "checkIn(3, 0)");
        both.answers(3, "user(0, true, 2)");
        both.answers(NONE, "user(0, true, 3)");
        both.answers(NONE, "user(0, false, 2)");
        Run byTheFirst = Vaults.drawings(3).then(Vaults.refer(0, 0, 2, NONE)).then(Vaults.refer(1, 0, 0, NONE));
        byTheFirst.answers(1, "user(2, true, 1)");
        byTheFirst.answers(NONE, "user(2, true, 2)");
        byTheFirst.answers(NONE, "user(2, false, 1)");
    }

    private static void userOfNone() {
        Checks.test("20: NONE if there is no such drawing");
        Run run = Vaults.row(3);
        for (String all : new String[] {"false", "true"}) {
            run.answers(NONE, "user(%, " + all + ", 0)", -1, 3, 24, 32, 33, LOW, HIGH);
            run.answers(NONE, "user(-1, " + all + ", %)", -1, LOW, HIGH);
        }
    }

    // ---- promise 21 ----

    private static void differenceAtEachPlace() {
        Checks.test("21: The k-th place (by 8 bytes, from 0 on) at which the pieces of two revisions differ");
        Run run = ASKED.then("checkIn(1, 0)", "out(1, 0)");
        for (int at = 0; at < 64; at++) {
            Run one = run.then("put(1, 0, " + at + ", 255)", "checkIn(1, 0)");
            one.answers(at / 8, "difference(1, 1, 2, 0)");
            one.answers(at / 8, "difference(1, 2, 1, 0)");
            one.answers(NONE, "difference(1, 1, 2, 1)");
        }
        Run same = run.then("checkIn(1, 0)");
        same.answers(NONE, "difference(1, 1, 2, 0)");
        same.answers(NONE, "difference(1, 1, 1, 0)");
        same.answers(NONE, "difference(1, 0, 0, 0)");
        Run ends = run.then("put(1, 0, 0, 255)", "put(1, 0, 63, 255)", "checkIn(1, 0)");
        ends.answers(0, "difference(1, 1, 2, 0)");
        ends.answers(7, "difference(1, 1, 2, 1)");
        ends.answers(NONE, "difference(1, 1, 2, 2)");
    }

    private static void differenceNotInBoth() {
        Checks.test("21: or are not in both; NONE if there is none");
        for (int k = 0; k < 8; k++) {
            ASKED.answers(k, "difference(0, 0, 1, " + k + ")");
            ASKED.answers(k, "difference(0, 1, 0, " + k + ")");
        }
        ASKED.answers(NONE, "difference(0, 0, 1, %)", -1, 8, 9, LOW, HIGH);
        ASKED.answers(NONE, "difference(0, 0, 0, %)", -1, 0, 7, LOW, HIGH);
        Run zeros = Vaults.drawings(1).then("out(0, 0)", "resize(0, 0, 16)", "checkIn(0, 0)", "out(0, 0)");
        int[] bytes = {0, 1, 8, 9, 15, 16, 17, 24, 25};
        int[] first = {0, 0, 1, 1, 1, NONE, 2, 2, 2};
        int[] second = {1, 1, NONE, NONE, NONE, NONE, NONE, NONE, 3};
        for (int i = 0; i < bytes.length; i++) {
            Run other = zeros.then("resize(0, 0, " + bytes[i] + ")", "checkIn(0, 0)");
            other.answers(first[i], "difference(0, 1, 2, 0)");
            other.answers(second[i], "difference(0, 1, 2, 1)");
            other.answers(second[i], "difference(0, 2, 1, 1)");
            other.answers(NONE, "difference(0, 1, 2, 2)");
        }
        zeros.then("ref(0, 0, 0, 0, NONE)", "drop(0, 0, 0)", "checkIn(0, 0)").answers(NONE, "difference(0, 1, 2, 0)");
    }

    private static void differenceOfNone() {
        Checks.test("21: IndexOutOfBoundsException if there are no such revisions");
        ASKED.hasNone("difference(%, 0, 0, 0)", -1, 8, 24, LOW, HIGH);
        ASKED.hasNone("difference(0, %, 0, 0)", -1, 2, 12, LOW, HIGH);
        ASKED.hasNone("difference(0, 0, %, 0)", -1, 2, 12, LOW, HIGH);
        ASKED.hasNone("difference(0, 2, 2, %)", -1, 0, LOW, HIGH);
        ASKED.hasNone("difference(1, 0, 1, 0)");
    }

    // ---- promise 24 ----

    private static void countOfWhat() {
        Checks.test("24: drawings, revisions, chunks, free pages, commands, copied forward, baselines, failed");
        int[] due = {8, 9, 8, 400 - 2 - 16 - 3 - 10, 14, 0, 0, 0};
        for (int what = 0; what < due.length; what++) {
            ASKED.answers(due[what], "count(" + what + ")");
        }
        Run most = Vaults.row(24);
        for (int n = 0; n < 10; n++) {
            most = most.does(n + 1, "baseline(" + n + ", " + n + ")");
        }
        most.answers(24, "count(0)");
        most.answers(47, "count(1)");
        most.answers(10, "count(6)");
        ASKED.then("failAfter(0)").answers(0, "count(7)");
        ASKED.then("failAfter(0)", "person(0, 7)").answers(1, "count(7)");
        ASKED.then("failAfter(0)", "person(0, 7)", "start()").answers(0, "count(7)");
    }

    private static void countOfNone() {
        Checks.test("24: NONE for another what");
        ASKED.answers(NONE, "count(%)", -1, 8, 9, LOW, HIGH);
        new Run().answers(NONE, "count(%)", -1, 8, LOW, HIGH);
        ASKED.then("failAfter(0)", "person(0, 7)").answers(NONE, "count(%)", -1, 8, LOW, HIGH);
    }

    private static void questionsChangeNothing() {
        Checks.test("questions change nothing");
        Run run = Vaults.row(4)
            .then("baseline(3, 3)", "out(2, 0)", "resize(2, 0, 20)", "put(2, 0, 19, 7)", "failAfter(5)");
        String[] questions = {
            "why()", "look(1, 1, 0)", "look(1, 1, 4)", "reference(1, 1, 0, 2)", "about(2, 3)", "about(2, 27)",
            "inBaseline(3, NONE, 0)", "inBaseline(3, 3, 1)", "user(0, false, 0)", "user(0, true, 2)",
            "difference(1, 0, 1, 0)", "count(2)", "count(3)", "count(8)", "failAfter(-1)",
        };
        for (String question : questions) {
            run.state().same(question, run.then(question).state());
        }
    }
}
