/** The sentences on a POWER FAILURE, of 'Terms' and of promises 2 to 14, 22 and 23, each at its edges. */
public final class PowerTest {
    private static final int LOW = Integer.MIN_VALUE;
    private static final int HIGH = Integer.MAX_VALUE;

    /**
     * Drawing 0 is out with person 0, written with 9 bytes and a reference and changed since; 1 is out
     * with person 1; 2 is IN WORK, 3 CHECKED, 4 RELEASED; baseline 0 is there; the last call was refused.
     */
    private static final Run READY = Vaults.drawings(6).then("check(3, 0, 1)").then(Vaults.release(4, 0))
        .then("baseline(0, 4)", "out(0, 0)", "out(1, 1)", "resize(0, 0, 9)", "put(0, 0, 8, 7)", "ref(0, 0, 0, 5, 0)")
        .then("person(2, 4)", "put(0, 0, 8, 6)", "resize(0, 0, 17)", "ref(0, 0, 1, 2, NONE)", "drawing(5)");

    private static final String[] COMMANDS = {
        "person(5, 1)", "drawing(1)", "out(2, 1)", "undo(0, 0)", "checkIn(0, 0)", "check(2, 0, 1)", "release(3, 0, 1)",
        "withdraw(2, 0, 1)", "baseline(1, 4)",
    };
    private static final int[] PAGES = {1, 2, 1, 1, 5, 1, 1, 1, 2};

    public static void main(String[] args) {
        afterNPages();
        fromThenOn();
        afterNoPage();
        everyCallThrowsThen();
        throwsWhateverReasonThereIs();
        questionsAnswerThen();
        refusedDoesNotFail();
        refusedByRoomDoesNotFail();
        whatIsNoCommandDoesNotFail();
        startedAsTheLatestCommandWrote();
        startedAsAnOutWrote();
        startedBeforeAnyCommand();
        copyingTakesNoPart();
        failAfterBelow0();
        failAfterInPlaceOfWhatWasTold();
        failAfterFarAhead();
        failAfterOnceFailed();
        startAlsoIfNothingFailed();
        startTellsHowManyAreOut();
        startCallsTheFailureOff();
        Checks.end();
    }

    // ---- the power fails ----

    private static void afterNPages() {
        Checks.test("the command that would come to write more than n pages does nothing, and throws");
        for (int i = 0; i < COMMANDS.length; i++) {
            Run before = READY.then("failAfter(" + PAGES[i] + ")");
            Run written = before.then(COMMANDS[i]);
            Checks.due(COMMANDS[i] + ", failed", written.ask("count(7)"), 0);
            Checks.due(COMMANDS[i] + ", why()", written.ask("why()"), 0);
            Checks.due(COMMANDS[i] + ", commands", written.ask("count(4)"), READY.ask("count(4)") + 1);
            written.failsBy("person(0, 7)");
            READY.then("failAfter(" + (PAGES[i] - 1) + ")").failsBy(COMMANDS[i]);
        }
    }

    private static void fromThenOn() {
        Checks.test("more than n pages from then on");
        Run run = READY.then("failAfter(4)").does("person(0, 7)").does("person(0, 7)").does(6, "drawing(0)");
        run.failsBy("person(0, 7)");
        Run three = READY.then("failAfter(3)", "drawing(0)");
        three.failsBy("drawing(0)");
        three.does("person(0, 7)").failsBy("person(0, 7)");
    }

    private static void afterNoPage() {
        Checks.test("after 0 pages");
        for (String command : COMMANDS) {
            READY.then("failAfter(0)").failsBy(command);
        }
        new Run("failAfter(0)").failsBy("person(0, 7)").answers(0, "start()");
        new Run("failAfter(1)").does("person(0, 7)").failsBy("person(0, 7)");
    }

    private static void everyCallThrowsThen() {
        Checks.test("and so does every command then, until the vault is STARTED");
        Run failed = READY.then("failAfter(0)").failsBy("person(5, 1)");
        for (String command : COMMANDS) {
            failed.hasNoPower(command);
            failed.then("start()", command).answers(0, "why()");
            failed.then("start()", command).answers(READY.ask("count(4)") + 1, "count(4)");
        }
        String[] others = {"put(0, 0, 0, 1)", "resize(0, 0, 1)", "ref(0, 0, 0, 2, 0)", "drop(0, 0, 0)"};
        for (String other : others) {
            failed.hasNoPower(other);
            failed.then("start()").does(other);
        }
    }

    private static void throwsWhateverReasonThereIs() {
        Checks.test("When the power has failed they throw, whatever reason there is");
        Run failed = READY.then("failAfter(0)").failsBy("person(5, 1)");
        int[] wrong = {LOW, -1, 5, 24, HIGH};
        String[] calls = {
            "person(%, 8)", "drawing(%)", "out(%, 0)", "out(0, %)", "undo(%, 0)", "undo(0, %)", "put(%, 0, 0, 0)",
            "put(0, %, 0, 0)", "put(0, 0, 0, %)", "resize(%, 0, 0)", "resize(0, %, 0)", "resize(0, 0, %)",
            "ref(%, 0, 0, 0, 0)", "ref(0, %, 0, 0, 0)", "ref(0, 0, %, 0, 0)", "ref(0, 0, 0, %, 0)", "drop(%, 0, 0)",
            "drop(0, %, 0)", "drop(0, 0, %)", "checkIn(%, 0)", "checkIn(0, %)", "check(%, 0, 1)", "check(0, %, 1)",
            "check(0, 0, %)", "release(%, 0, 1)", "release(0, %, 1)", "release(0, 0, %)", "withdraw(%, 0, 1)",
            "withdraw(0, %, 1)", "withdraw(0, 0, %)", "baseline(%, 4)", "baseline(0, %)",
        };
        for (String call : calls) {
            failed.hasNoPower(call, wrong);
        }
    }

    private static void questionsAnswerThen() {
        Checks.test("questions do not throw for that");
        Run failed = READY.then("failAfter(0)").failsBy("person(5, 1)");
        String[] questions = {
            "why()", "look(0, 0, 1)", "about(0, 2)", "about(0, 3)", "about(0, 16)", "about(0, 203)",
            "inBaseline(0, NONE, 0)", "user(5, true, 0)", "difference(0, 0, 0, 0)", "count(3)", "count(4)", "count(6)",
        };
        for (String question : questions) {
            failed.answers(READY.ask(question), question);
        }
        failed.hasNone("look(6, 0, 0)");
        failed.hasNone("reference(0, 0, 0, 0)");
        failed.hasNone("about(0, 5)");
        failed.hasNone("inBaseline(1, NONE, 0)");
        failed.hasNone("difference(0, 0, 1, 0)");
    }

    private static void refusedDoesNotFail() {
        Checks.test("What was refused writes nothing, so that the power does not fail by it");
        for (int n : new int[] {0, 5}) {
            Run run = READY.then("failAfter(" + n + ")");
            run.refuses(7, "person(16, 1)");
            run.refuses(1, "drawing(5)");
            run.refuses(2, "out(0, 0)");
            run.refuses(2, "undo(0, 1)");
            run.refuses(2, "checkIn(0, 1)");
            run.refuses(3, "check(2, 0, 0)");
            run.refuses(2, "release(2, 0, 1)");
            run.refuses(5, "withdraw(4, 0, 1)");
            run.refuses(2, "baseline(0, 4)");
        }
    }

    private static void refusedByRoomDoesNotFail() {
        Checks.test("nor by what is refused for want of room");
        Run none = Vaults.full(0).then("failAfter(0)");
        none.refuses(8, "person(0, 7)");
        none.refuses(8, "checkIn(15, 0)");
        Run one = Vaults.full(1).then("failAfter(0)");
        one.refuses(8, "drawing(0)");
        one.failsBy("person(0, 7)");
        Vaults.drawings(24).then("failAfter(0)").refuses(8, "drawing(0)");
    }

    private static void whatIsNoCommandDoesNotFail() {
        Checks.test("Working copies' bytes and references are no commands");
        Run run = READY.then("failAfter(0)");
        run.does("put(0, 0, 0, 1)").does("resize(0, 0, 64)").does("ref(0, 0, 2, 1, 0)").does("drop(0, 0, 0)")
            .answers(0, "count(7)");
    }

    // ---- started ----

    private static void startedAsTheLatestCommandWrote() {
        Checks.test("all is as it was behind the latest command that wrote");
        for (String command : COMMANDS) {
            Run started = READY.then("failAfter(0)", command, "start()");
            started.answers(0, "count(7)");
            started.answers(0, "about(0, 2)");
            started.answers(9, "about(0, 3)");
            started.answers(7, "about(0, 16)");
            started.answers(1, "about(0, 4)");
            started.answers(5, "about(0, 200)");
            started.answers(0, "about(0, 201)");
            started.answers(READY.ask("count(3)"), "count(3)");
            started.answers(READY.ask("count(4)"), "count(4)");
            started.answers(1, "count(6)");
        }
    }

    private static void startedAsAnOutWrote() {
        Checks.test("a copy as out() wrote it");
        Run run = Vaults.drawings(1).then("out(0, 0)", "resize(0, 0, 3)", "put(0, 0, 2, 9)", "checkIn(0, 0)")
            .then("out(0, 1)", "put(0, 1, 2, 8)", "resize(0, 1, 64)", "failAfter(0)").failsBy("checkIn(0, 1)");
        run.answers(1, "start()");
        Run started = run.then("start()");
        started.answers(3, "about(0, 3)");
        started.answers(9, "about(0, 10)");
        started.does(2, "checkIn(0, 1)").answers(9, "look(0, 2, 10)");
        Run written = Vaults.drawings(1).then("out(0, 0)", "resize(0, 0, 3)", "ref(0, 0, 0, 0, 9)", "person(2, 1)");
        for (String end : new String[] {"undo(0, 0)", "checkIn(0, 0)"}) {
            Run given = written.then("drop(0, 0, 0)", end, "start()");
            given.answers(DrawingVault.NONE, "about(0, 2)");
            given.answers(0, "about(0, 3)");
            given.answers(0, "about(0, 4)");
        }
        written.then("undo(0, 0)", "start()").does("out(0, 0)").answers(0, "about(0, 3)");
    }

    private static void startedBeforeAnyCommand() {
        Checks.test("started before any command wrote");
        Run failed = new Run("failAfter(0)").failsBy("person(0, 7)");
        failed.answers(0, "start()");
        Run started = failed.then("start()");
        started.answers(400, "count(3)");
        started.answers(0, "count(4)");
        started.refuses(1, "drawing(0)");
        started.does("person(0, 7)");
    }

    private static void copyingTakesNoPart() {
        Checks.test("(Copying forward takes no part in n.)");
        Run spent = Vaults.dear(Vaults.dear(Vaults.drawings(3), 0, 8, 12), 1, 8, 12);
        Run copied = Vaults.left(spent, 40).does("failAfter(2)").does("person(0, 7)");
        copied.answers(1, "count(5)");
        copied.does("person(0, 7)").failsBy("person(0, 7)");
        copied.failsBy("drawing(0)");
        Run failed = Vaults.left(spent, 40).then("failAfter(0)").failsBy("person(0, 7)");
        failed.answers(0, "count(5)");
        failed.then("start()").answers(40, "count(3)");
    }

    // ---- failAfter() ----

    private static void failAfterBelow0() {
        Checks.test("false if n is below 0");
        for (Run run : new Run[] {READY, READY.then("failAfter(1)"), READY.then("out(9, 9)")}) {
            for (int n : new int[] {-1, LOW}) {
                String call = "failAfter(" + n + ")";
                run.answers(0, call);
                run.state().same(call, run.then(call).state());
                run.then(call).answers(run.ask("why()"), "why()");
            }
        }
        READY.answers(1, "failAfter(0)");
    }

    private static void failAfterInPlaceOfWhatWasTold() {
        Checks.test("(in place of what was told before)");
        Run later = READY.then("failAfter(0)", "failAfter(1)");
        later.does("person(0, 7)").failsBy("person(0, 7)");
        READY.then("failAfter(9)", "failAfter(0)").failsBy("person(0, 7)");
        READY.then("failAfter(2)", "person(0, 7)", "failAfter(2)").does(6, "drawing(0)").failsBy("person(0, 7)");
        READY.then("failAfter(1)", "failAfter(-1)").does("person(0, 7)").failsBy("person(0, 7)");
    }

    private static void failAfterFarAhead() {
        Checks.test("n at its greatest value");
        Run far = READY.then("failAfter(2147483647)");
        READY.answers(1, "failAfter(2147483647)");
        far.times(300, "person(0, 7)").answers(0, "count(7)");
        far.times(300, "person(0, 7)").does(6, "drawing(0)");
        READY.then("failAfter(0)").then("failAfter(2147483647)").does("person(0, 7)");
    }

    private static void failAfterOnceFailed() {
        Checks.test("false if it has failed");
        Run failed = READY.then("failAfter(0)").failsBy("person(5, 1)");
        for (int n : new int[] {LOW, -1, 0, 1, 400, HIGH}) {
            String call = "failAfter(" + n + ")";
            failed.answers(0, call);
            failed.state().same(call, failed.then(call).state());
        }
        failed.then("failAfter(0)", "start()").does("person(0, 7)");
        failed.then("start()").answers(1, "failAfter(0)");
    }

    // ---- start() ----

    private static void startAlsoIfNothingFailed() {
        Checks.test("(also if nothing failed; then working copies are as the latest command wrote them, too)");
        READY.answers(2, "start()");
        Run started = READY.then("start()");
        started.answers(9, "about(0, 3)");
        started.answers(7, "about(0, 16)");
        started.answers(1, "about(0, 4)");
        started.answers(READY.ask("count(3)"), "count(3)");
        started.answers(READY.ask("count(4)"), "count(4)");
        started.state().same("start() again", started.then("start()").state());
        READY.then("out(9, 9)", "start()").answers(1, "why()");
        new Run().answers(0, "start()");
        new Run().state().same("start() of a new object", new Run("start()").state());
    }

    private static void startTellsHowManyAreOut() {
        Checks.test("how many drawings are out");
        Vaults.drawings(24).answers(0, "start()");
        Run all = Vaults.drawings(24);
        for (int d = 23; d >= 0; d--) {
            all = all.then("out(" + d + ", " + d % 2 + ")");
            all.answers(24 - d, "start()");
        }
        all.then("undo(0, 0)").answers(23, "start()");
        all.then("checkIn(23, 1)").answers(23, "start()");
        all.then("failAfter(0)", "undo(0, 0)").answers(24, "start()");
        Vaults.drawings(1).then("failAfter(0)", "out(0, 0)").answers(0, "start()");
        Vaults.drawings(1).then("out(0, 0)", "person(0, 0)").answers(1, "start()");
    }

    private static void startCallsTheFailureOff() {
        Checks.test("No power failure is to come");
        READY.then("failAfter(0)", "start()").does("person(0, 7)").does(6, "drawing(0)");
        Run failed = READY.then("failAfter(0)", "person(0, 7)");
        failed.answers(1, "count(7)");
        failed.then("start()").answers(0, "count(7)");
        failed.then("start()").does("person(0, 7)").does("person(0, 7)");
        failed.then("start()", "failAfter(1)").does("person(0, 7)").failsBy("person(0, 7)");
    }
}
