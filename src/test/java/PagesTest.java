/** The sentences of 'Terms' on PAGES: what each command writes, copying forward, and the last pages. */
public final class PagesTest {
    private static final int NONE = DrawingVault.NONE;

    /** 2 persons, 3 drawings, 25 revisions, 8 chunks: copied forward these are 41 pages. */
    private static final Run SPENT = dearTwice(Vaults.drawings(3));
    private static final int FREE_THEN = 400 - 41;

    public static void main(String[] args) {
        has400();
        pagesOfEachCommand();
        pagesOfCheckIn();
        pagesOfBaseline();
        refusedWritesNothing();
        whatIsNoCommandWritesNothing();
        writtenByEachCommand();
        writtenByNothingElse();
        writtenForAllThatAreOut();
        lessThan40AreLeft();
        copiedByEachCommand();
        personsCopied();
        drawingsAndRevisionsCopied();
        copiesThatAreOutCopied();
        chunksCopied();
        baselinesCopied();
        copyingChangesNothing();
        copyingLeaves40();
        copyingAgain();
        lastPageOfCommandsOfOne();
        lastPagesOfDrawing();
        lastPagesOfCheckIn();
        lastPagesOfBaseline();
        Checks.end();
    }

    // ---- what is written ----

    private static void has400() {
        Checks.test("the vault has 400");
        new Run().answers(400, "count(3)");
        new Run("person(0, 7)").answers(399, "count(3)");
        new Run("start()").answers(400, "count(3)");
    }

    private static void writes(int pages, Run run, String call) {
        Run longer = run.then(call);
        Checks.due(call + ", why()", longer.ask("why()"), 0);
        Checks.due(call + ", pages", run.ask("count(3)") - longer.ask("count(3)"), pages);
        Checks.due(call + ", commands", longer.ask("count(4)") - run.ask("count(4)"), 1);
    }

    private static void pagesOfEachCommand() {
        Checks.test("each one in one go, as many pages as told");
        Run run = Vaults.drawings(2);
        writes(1, run, "person(5, 7)");
        writes(1, run, "person(0, 7)");
        writes(1, run, "person(1, 0)");
        writes(2, run, "drawing(1)");
        writes(1, run, "out(0, 0)");
        writes(1, run.then("out(0, 0)", "resize(0, 0, 64)"), "undo(0, 0)");
        writes(2, run.then("out(0, 0)"), "checkIn(0, 0)");
        writes(1, run, "check(0, 0, 1)");
        writes(1, run.then("check(0, 0, 1)"), "release(0, 0, 1)");
        writes(1, run, "withdraw(0, 0, 1)");
        writes(2, run.then(Vaults.release(0, 0)), "baseline(0, 0)");
    }

    private static void pagesOfCheckIn() {
        Checks.test("checkIn() 2 and 1 for each chunk of the copy");
        Run out = Vaults.drawings(2).then("out(0, 0)");
        writes(2, out, "checkIn(0, 0)");
        writes(3, out.then("resize(0, 0, 1)"), "checkIn(0, 0)");
        writes(3, out.then("resize(0, 0, 8)"), "checkIn(0, 0)");
        writes(4, out.then("resize(0, 0, 9)"), "checkIn(0, 0)");
        Run full = out.then("resize(0, 0, 64)");
        for (int chunks = 1; chunks <= 8; chunks++) {
            writes(2 + chunks, full, "checkIn(0, 0)");
            full = full.then("put(0, 0, " + 8 * (chunks % 8) + ", " + chunks + ")");
        }
        Run known = out.then("resize(0, 0, 8)", "checkIn(0, 0)", "out(0, 0)");
        writes(3, known, "checkIn(0, 0)");
        writes(2, out.then("ref(0, 0, 0, 1, NONE)"), "checkIn(0, 0)");
    }

    private static void pagesOfBaseline() {
        Checks.test("baseline() 1 and 1 for each 8 drawings begun");
        Run row = Vaults.row(24);
        int[] sizes = {1, 7, 8, 9, 15, 16, 17, 23, 24};
        int[] pages = {2, 2, 2, 3, 3, 3, 4, 4, 4};
        for (int i = 0; i < sizes.length; i++) {
            String call = "baseline(0, " + (sizes[i] - 1) + ")";
            row.does(sizes[i], call);
            writes(pages[i], row, call);
        }
    }

    private static void refusedWritesNothing() {
        Checks.test("What was refused writes nothing");
        Run run = Vaults.drawings(2).then("out(0, 0)", "resize(0, 0, 8)", "put(0, 0, 0, 1)", "ref(0, 0, 0, 1, 0)");
        String[] refused = {
            "person(16, 7)", "drawing(5)", "out(0, 0)", "undo(0, 1)", "checkIn(0, 1)", "check(0, 0, 1)",
            "release(0, 0, 1)", "withdraw(0, 1, 1)", "baseline(0, 0)",
        };
        for (String call : refused) {
            Run longer = run.then(call);
            Checks.due(call + " is refused", longer.ask("why()") != 0, true);
            longer.answers(400 - 7, "count(3)");
            longer.answers(5, "count(4)");
            longer.then("start()").answers(0, "about(0, 3)");
            longer.then("start()").answers(0, "about(0, 4)");
        }
    }

    // ---- working copies ----

    private static void whatIsNoCommandWritesNothing() {
        Checks.test("Working copies' bytes and references are no commands");
        Run run = Vaults.drawings(2).then("out(0, 0)");
        Run changed = run.does("resize(0, 0, 64)").does("put(0, 0, 63, 9)").does("ref(0, 0, 0, 1, 0)")
            .does("ref(0, 0, 1, 1, NONE)").does("drop(0, 0, 0)");
        changed.answers(run.ask("count(3)"), "count(3)");
        changed.answers(run.ask("count(4)"), "count(4)");
        Run started = changed.then("start()");
        started.answers(0, "about(0, 3)");
        started.answers(0, "about(0, 4)");
    }

    /** Drawing 0 is out with changes that are in memory only. */
    private static Run changed() {
        return Vaults.drawings(6).then("check(3, 0, 1)").then(Vaults.release(4, 0)).then("out(0, 0)", "out(1, 1)")
            .then("resize(0, 0, 2)", "put(0, 0, 1, 77)", "ref(0, 0, 0, 5, 8)");
    }

    private static void writtenByEachCommand() {
        Checks.test("they are written by each command of the vault that writes");
        String[] commands = {
            "person(5, 1)", "drawing(1)", "out(2, 1)", "undo(1, 1)", "checkIn(1, 1)", "check(2, 0, 1)",
            "release(3, 0, 1)", "withdraw(2, 0, 1)", "baseline(0, 4)",
        };
        for (String command : commands) {
            Run later = changed().then(command);
            Checks.due(command + ", why()", later.ask("why()"), 0);
            Run started = later.then("resize(0, 0, 0)", "drop(0, 0, 0)", "start()");
            started.answers(2, "about(0, 3)");
            started.answers(77, "about(0, 9)");
            started.answers(1, "about(0, 4)");
            started.answers(5, "about(0, 200)");
            started.answers(8, "about(0, 201)");
        }
    }

    private static void writtenByNothingElse() {
        Checks.test("they are written by nothing else");
        String[] others = {
            "put(0, 0, 0, 1)", "resize(1, 1, 5)", "ref(1, 1, 0, 0, 0)", "drop(0, 0, 0)", "why()", "look(0, 0, 0)",
            "about(0, 0)", "user(0, true, 0)", "difference(0, 0, 0, 0)", "count(2)", "failAfter(9)", "start()",
            "person(0, 9)", "out(0, 0)", "baseline(0, 0)",
        };
        for (String other : others) {
            Run started = changed().then(other, "start()");
            started.answers(0, "about(0, 3)");
            started.answers(0, "about(0, 4)");
            started.answers(0, "about(1, 3)");
        }
    }

    private static void writtenForAllThatAreOut() {
        Checks.test("(whole, for all that are out, without pages)");
        Run run = Vaults.drawings(24);
        for (int d = 0; d < 24; d++) {
            run = run.then("out(" + d + ", 0)", "resize(" + d + ", 0, 64)", "put(" + d + ", 0, 63, " + (d + 1) + ")");
            for (int k = 0; k < 6; k++) {
                run = run.then("ref(" + d + ", 0, " + k + ", " + (d + k) % 24 + ", " + k + ")");
            }
        }
        writes(1, run, "person(2, 0)");
        Run started = run.then("person(2, 0)", "resize(0, 0, 0)", "resize(23, 0, 0)", "start()");
        for (int d = 0; d < 24; d++) {
            started.answers(64, "about(" + d + ", 3)");
            started.answers(d + 1, "about(" + d + ", 71)");
            started.answers(6, "about(" + d + ", 4)");
            started.answers((d + 5) % 24, "about(" + d + ", 210)");
            started.answers(5, "about(" + d + ", 211)");
        }
    }

    // ---- copying forward ----

    private static Run dearTwice(Run run) {
        return Vaults.dear(Vaults.dear(run, 0, 8, 12), 1, 8, 12);
    }

    private static void lessThan40AreLeft() {
        Checks.test("When less than 40 pages are left behind a command, the vault is COPIED FORWARD");
        Run forty = Vaults.left(SPENT, 40);
        forty.answers(0, "count(5)");
        Run copied = forty.does("person(0, 7)");
        copied.answers(FREE_THEN, "count(3)");
        copied.answers(1, "count(5)");
        Run from41 = Vaults.left(SPENT, 41);
        from41.does("person(0, 7)").answers(0, "count(5)");
        from41.does(3, "drawing(0)").answers(1, "count(5)");
        from41.then("drawing(0)").answers(FREE_THEN - 3, "count(3)");
        Run out = SPENT.then("out(2, 0)", "resize(2, 0, 64)");
        Vaults.left(out, 42).does(1, "checkIn(2, 0)").answers(1, "count(5)");
        Vaults.left(out, 43).does(1, "checkIn(2, 0)").answers(0, "count(5)");
    }

    private static void copiedByEachCommand() {
        Checks.test("behind each command");
        Run forty = Vaults.left(SPENT.then("drawing(0)", "check(3, 0, 1)", "drawing(0)").then(Vaults.release(4, 0))
            .then("drawing(0)", "out(5, 0)"), 40);
        int free = FREE_THEN - 9;
        String[] commands = {
            "person(5, 1)", "drawing(1)", "out(2, 1)", "undo(5, 0)", "checkIn(5, 0)", "check(2, 0, 1)",
            "release(3, 0, 1)", "withdraw(2, 0, 1)", "baseline(0, 4)",
        };
        int[] left = {
            free - 1 - 1, free - 1 - 3, free - 1 - 1, free, free - 1, free - 1, free - 1, free - 1, free - 1 - 2,
        };
        for (int i = 0; i < commands.length; i++) {
            Run copied = forty.then(commands[i]);
            Checks.due(commands[i] + ", why()", copied.ask("why()"), 0);
            Checks.due(commands[i] + ", pages", copied.ask("count(3)"), left[i]);
            Checks.due(commands[i] + ", copied", copied.ask("count(5)"), 1);
            Checks.due(commands[i] + ", commands", copied.ask("count(4)"), forty.ask("count(4)") + 1);
        }
        Run other = forty.then("put(5, 0, 0, 0)", "resize(5, 0, 9)", "person(16, 0)", "start()");
        other.answers(40, "count(3)");
        other.answers(0, "count(5)");
    }

    /** How many pages less are free, once copied forward, if these calls were made before. */
    private static void takes(int pages, Run run, String... calls) {
        Run copied = Vaults.left(run.then(calls), 40).then("person(0, 7)");
        copied.answers(1, "count(5)");
        Run without = Vaults.left(run, 40).then("person(0, 7)");
        Checks.due(String.join(" ", calls) + ", pages", without.ask("count(3)") - copied.ask("count(3)"), pages);
    }

    private static void personsCopied() {
        Checks.test("1 for each person that has rights");
        takes(1, SPENT, "person(15, 1)");
        takes(1, SPENT, "person(15, 7)");
        takes(0, SPENT, "person(15, 0)");
        takes(0, SPENT, "person(15, 7)", "person(15, 0)");
        takes(-1, SPENT, "person(1, 0)");
        takes(0, SPENT, "person(1, 2)");
        String[] all = new String[14];
        for (int i = 0; i < all.length; i++) {
            all[i] = "person(" + (2 + i) + ", 4)";
        }
        takes(14, SPENT, all);
    }

    private static void drawingsAndRevisionsCopied() {
        Checks.test("2 for each drawing, 1 for each revision");
        takes(3, SPENT, "drawing(0)");
        takes(6, SPENT, "drawing(0)", "drawing(1)");
        takes(1, SPENT, Vaults.revise(2));
        takes(0, SPENT, "check(2, 0, 1)", "release(2, 0, 0)");
        takes(0, SPENT, "withdraw(2, 0, 0)");
        takes(1, SPENT, Vaults.refer(2, 0, 0, NONE));
    }

    private static void copiesThatAreOutCopied() {
        Checks.test("1 for each copy that is out");
        takes(1, SPENT, "out(2, 0)");
        takes(2, SPENT, "out(2, 0)", "out(0, 1)");
        takes(1, SPENT, "out(2, 0)", "ref(2, 0, 0, 1, 0)");
        takes(0, SPENT, "out(2, 0)", "undo(2, 0)");
    }

    private static void chunksCopied() {
        Checks.test("1 for each chunk that revisions have");
        takes(1, SPENT, "out(2, 0)", "resize(2, 0, 64)", "put(2, 0, 63, 99)");
        takes(1, SPENT, "out(2, 0)", "resize(2, 0, 8)", "checkIn(2, 0)");
        takes(2, SPENT, "out(2, 0)", "resize(2, 0, 7)", "checkIn(2, 0)");
        takes(2, SPENT, "out(2, 0)", "resize(2, 0, 64)", "put(2, 0, 63, 99)", "checkIn(2, 0)");
        takes(3, SPENT, "out(2, 0)", "resize(2, 0, 9)", "put(2, 0, 0, 99)", "checkIn(2, 0)");
        takes(2, SPENT, "out(2, 0)", "resize(2, 0, 7)", "checkIn(2, 0)", "withdraw(2, 1, 0)");
    }

    private static void baselinesCopied() {
        Checks.test("for each baseline 1 and 1 for each 8 drawings begun");
        Run row = Vaults.dear(Vaults.row(24), 0, 8, 12);
        int[] sizes = {1, 8, 9, 16, 17, 24};
        int[] pages = {2, 2, 3, 3, 4, 4};
        for (int i = 0; i < sizes.length; i++) {
            takes(pages[i], row, "baseline(9, " + (sizes[i] - 1) + ")");
        }
        takes(6, row, "baseline(0, 23)", "baseline(9, 0)");
    }

    private static void copyingChangesNothing() {
        Checks.test("copying forward changes the pages alone");
        Run out = SPENT.then("out(2, 1)", "resize(2, 1, 5)", "put(2, 1, 4, 8)", "ref(2, 1, 0, 1, 3)");
        Run forty = Vaults.left(out, 40);
        Run copied = forty.then("person(0, 7)");
        copied.answers(1, "about(2, 2)");
        copied.answers(5, "about(2, 3)");
        copied.answers(8, "about(2, 12)");
        copied.answers(3, "about(2, 201)");
        copied.answers(25, "count(1)");
        copied.answers(9, "count(2)");
        Run started = copied.then("resize(2, 1, 0)", "start()");
        started.answers(5, "about(2, 3)");
        started.answers(FREE_THEN - 1, "count(3)");
        started.answers(1, "count(5)");
    }

    private static void copyingLeaves40() {
        Checks.test("(If that leaves less than 40, it is not done.)");
        Run run = Vaults.chunked(Vaults.drawings(23), 31);
        for (int p = 2; p < 12; p++) {
            run = run.then("person(" + p + ", 1)");
        }
        // 12 persons, 23 drawings, 54 revisions, 248 chunks: 360 pages
        Run forty = Vaults.left(run, 40);
        int before = forty.ask("count(5)");
        Run copied = forty.does("person(0, 7)");
        copied.answers(40, "count(3)");
        copied.answers(before + 1, "count(5)");
        Run not = forty.does("person(12, 1)");
        not.answers(39, "count(3)");
        not.answers(before, "count(5)");
        not.does("person(0, 7)").answers(38, "count(3)");
        Run less = not.does("person(12, 0)");
        less.answers(40, "count(3)");
        less.answers(before + 1, "count(5)");
    }

    private static void copyingAgain() {
        Checks.test("copied forward more than once");
        Run run = Vaults.PERSONS;
        for (int d = 0; d < 7; d++) {
            run = Vaults.dear(run.then("drawing(0)"), d, 8, 11);
        }
        run.answers(2, "count(5)");
    }

    // ---- the last pages ----

    private static void lastPageOfCommandsOfOne() {
        Checks.test("8 by pages: of 1 page");
        Run one = Vaults.full(1);
        Run none = Vaults.full(0);
        String[] commands = {
            "person(9, 1)", "out(14, 1)", "undo(15, 0)", "check(16, 0, 1)", "release(17, 0, 0)", "withdraw(16, 0, 0)",
        };
        for (String command : commands) {
            one.does(command).answers(0, "count(3)");
            none.refuses(8, command);
        }
    }

    private static void lastPagesOfDrawing() {
        Checks.test("8 by pages: of drawing()");
        Vaults.full(2).does(23, "drawing(0)").answers(0, "count(3)");
        Vaults.full(1).refuses(8, "drawing(0)");
    }

    private static void lastPagesOfCheckIn() {
        Checks.test("8 by pages: of checkIn()");
        Vaults.full(2).does(1, "checkIn(15, 0)").answers(0, "count(3)");
        Vaults.full(1).refuses(8, "checkIn(15, 0)");
        Vaults.full(3).then("resize(15, 0, 64)").does(1, "checkIn(15, 0)").answers(0, "count(3)");
        Vaults.full(2).then("resize(15, 0, 64)").refuses(8, "checkIn(15, 0)");
        String[] two = {"resize(15, 0, 64)", "put(15, 0, 63, 255)"};
        Vaults.full(4).then(two).does(1, "checkIn(15, 0)").answers(0, "count(3)");
        Vaults.full(3).then(two).refuses(8, "checkIn(15, 0)");
    }

    private static void lastPagesOfBaseline() {
        Checks.test("8 by pages: of baseline()");
        Vaults.full(2).does(1, "baseline(1, 18)").answers(0, "count(3)");
        Vaults.full(1).refuses(8, "baseline(1, 18)");
        Vaults.full(2).does(2, "baseline(9, 19)").answers(0, "count(3)");
    }
}
