/** Promises 6 to 9, sentence by sentence: what is done to a working copy, and what is refused. */
public final class CopyEdgesTest {
    private static final int NONE = DrawingVault.NONE;
    private static final int LOW = Integer.MIN_VALUE;
    private static final int HIGH = Integer.MAX_VALUE;

    /** Drawing 0 is out with person 0 and 1 with person 1; 2 is not out; person 2 has no right. */
    private static final Run OUT = Vaults.drawings(3).then("out(0, 0)", "out(1, 1)");

    public static void main(String[] args) {
        putAtEachByte();
        putAtNoByte();
        putOfEachValue();
        putRefused();
        resizeToEachSize();
        resizeRefused();
        newBytesAre0();
        refBecomesThatOne();
        refIsOneMore();
        refOfSix();
        refToATarget();
        refToARevision();
        refRefused();
        dropOfEach();
        dropOfNone();
        dropRefused();
        copiesAreApart();
        Checks.end();
    }

    // ---- promise 6 ----

    private static void putAtEachByte() {
        Checks.test("6: Byte at of what is out with a person");
        Run full = OUT.then("resize(0, 0, 64)");
        for (int at = 0; at < 64; at++) {
            Run put = full.does("put(0, 0, " + at + ", 255)");
            for (int other = 0; other < 64; other++) {
                put.answers(other == at ? 255 : 0, "about(0, " + (8 + other) + ")");
            }
            put.does("put(0, 0, " + at + ", 1)").answers(1, "about(0, " + (8 + at) + ")");
        }
    }

    private static void putAtNoByte() {
        Checks.test("6: 7 (also no such byte)");
        OUT.refuses(7, "put(0, 0, %, 1)", 0, 1, 63, -1, LOW, HIGH);
        for (int bytes : new int[] {1, 7, 8, 9, 63, 64}) {
            Run run = OUT.then("resize(0, 0, " + bytes + ")");
            run.does("put(0, 0, 0, 1)");
            run.does("put(0, 0, " + (bytes - 1) + ", 1)");
            run.refuses(7, "put(0, 0, %, 1)", -1, bytes, bytes + 1, 64, LOW, HIGH);
        }
        OUT.then("resize(0, 0, 64)", "resize(0, 0, 3)").refuses(7, "put(0, 0, 3, 1)");
    }

    private static void putOfEachValue() {
        Checks.test("6: 7 (also no such value 0 .. 255)");
        Run run = OUT.then("resize(0, 0, 8)", "put(0, 0, 7, 9)");
        for (int value = 0; value < 256; value++) {
            run.does("put(0, 0, 7, " + value + ")").answers(value, "about(0, 15)");
        }
        run.refuses(7, "put(0, 0, 7, %)", -1, 256, 512, LOW, HIGH);
    }

    private static void putRefused() {
        Checks.test("6: false: 1, 2, 7");
        Run run = OUT.then("resize(0, 0, 8)", "resize(1, 1, 8)");
        run.refuses(1, "put(0, %, 0, 1)", 2, 15, 16, -1, LOW, HIGH);
        run.refuses(2, "put(0, 1, 0, 1)");
        run.refuses(2, "put(1, 0, 0, 1)");
        run.refuses(2, "put(2, 0, 0, 1)");
        run.refuses(7, "put(%, 0, 0, 1)", 3, 24, -1, LOW, HIGH);
        run.then("undo(0, 0)").refuses(2, "put(0, 0, 0, 1)");
        run.then("checkIn(0, 0)").refuses(2, "put(0, 0, 0, 1)");
    }

    // ---- promise 7 ----

    private static void resizeToEachSize() {
        Checks.test("7: The copy that is out has so many bytes (0 .. 64, else 7)");
        for (int bytes = 0; bytes <= 64; bytes++) {
            for (Run run : new Run[] {OUT, OUT.then("resize(0, 0, 64)")}) {
                Run sized = run.does("resize(0, 0, " + bytes + ")");
                sized.answers(bytes, "about(0, 3)");
                sized.answers(bytes == 0 ? Checks.INDEX : 0, "about(0, " + (7 + Math.max(1, bytes)) + ")");
                sized.answers(Checks.INDEX, "about(0, " + (8 + bytes) + ")");
            }
        }
    }

    private static void resizeRefused() {
        Checks.test("7: false: 1, 2, 7");
        Run run = OUT.then("resize(0, 0, 8)", "put(0, 0, 0, 1)");
        run.refuses(7, "resize(0, 0, %)", -1, 65, 128, LOW, HIGH);
        run.refuses(1, "resize(0, %, 1)", 2, 15, 16, -1, LOW, HIGH);
        run.refuses(2, "resize(0, 1, 1)");
        run.refuses(2, "resize(1, 0, 1)");
        run.refuses(2, "resize(2, 0, 1)");
        run.refuses(7, "resize(%, 0, 1)", 3, 24, -1, LOW, HIGH);
    }

    private static void newBytesAre0() {
        Checks.test("7: new ones 0");
        Run full = OUT.then("resize(0, 0, 64)");
        for (int at = 0; at < 64; at++) {
            full = full.then("put(0, 0, " + at + ", 255)");
        }
        for (int bytes : new int[] {0, 1, 7, 8, 9, 31, 56, 57, 63, 64}) {
            Run again = full.then("resize(0, 0, " + bytes + ")", "resize(0, 0, 64)");
            for (int at = 0; at < 64; at++) {
                again.answers(at < bytes ? 255 : 0, "about(0, " + (8 + at) + ")");
            }
        }
    }

    // ---- promise 8 ----

    /** References 0, 1, .. are to drawings 0, 1, 2, 0, .. and revisions 10, 11, .. */
    private static Run with(int references) {
        Run run = OUT;
        for (int k = 0; k < references; k++) {
            run = run.does("ref(0, 0, " + k + ", " + k % 3 + ", " + (k + 10) + ")");
        }
        return run;
    }

    private static void refBecomesThatOne() {
        Checks.test("8: Reference k of the copy that is out becomes that one");
        for (int k = 0; k < 6; k++) {
            Run run = with(6).does("ref(0, 0, " + k + ", " + (k + 1) % 3 + ", 7)");
            run.answers(6, "about(0, 4)");
            for (int other = 0; other < 6; other++) {
                run.answers((other == k ? k + 1 : other) % 3, "about(0, " + (200 + 2 * other) + ")");
                run.answers(other == k ? 7 : other + 10, "about(0, " + (201 + 2 * other) + ")");
            }
        }
    }

    private static void refIsOneMore() {
        Checks.test("8: for k as many as it has, it is one more; 7 (also no such k)");
        for (int has = 0; has < 6; has++) {
            Run run = with(has);
            Run more = run.does("ref(0, 0, " + has + ", 1, NONE)");
            more.answers(has + 1, "about(0, 4)");
            more.answers(1, "about(0, " + (200 + 2 * has) + ")");
            more.answers(NONE, "about(0, " + (201 + 2 * has) + ")");
            run.refuses(7, "ref(0, 0, %, 1, NONE)", -1, has + 1, has + 2, 7, LOW, HIGH);
        }
    }

    private static void refOfSix() {
        Checks.test("8: (8 if it has six)");
        Run six = with(6);
        six.refuses(8, "ref(0, 0, 6, 1, %)", NONE, 0, HIGH);
        six.refuses(7, "ref(0, 0, %, 1, NONE)", -1, 7, 8, LOW, HIGH);
        six.refuses(7, "ref(0, 0, 6, %, NONE)", -1, 3, LOW, HIGH);
        six.refuses(7, "ref(0, 0, 6, 1, %)", -2, LOW);
        six.does("ref(0, 0, 5, 1, NONE)");
        six.then("drop(0, 0, 0)").does("ref(0, 0, 5, 1, NONE)").refuses(8, "ref(0, 0, 6, 1, NONE)");
    }

    private static void refToATarget() {
        Checks.test("8: 7 (or no such target drawing)");
        for (int target : new int[] {0, 1, 2}) {
            OUT.does("ref(0, 0, 0, " + target + ", NONE)").answers(target, "about(0, 200)");
        }
        OUT.refuses(7, "ref(0, 0, 0, %, NONE)", -1, 3, 23, 24, 32, LOW, HIGH);
        with(1).refuses(7, "ref(0, 0, 0, %, NONE)", -1, 3, LOW, HIGH);
        Run all = Vaults.drawings(24).then("out(0, 0)");
        all.does("ref(0, 0, 0, 23, NONE)");
        all.refuses(7, "ref(0, 0, 0, 24, NONE)");
    }

    private static void refToARevision() {
        Checks.test("8: the revision is looked at by checkIn() alone, but for less than NONE");
        for (int revision : new int[] {NONE, 0, 1, 11, 12, 100, HIGH}) {
            OUT.does("ref(0, 0, 0, 2, " + revision + ")").answers(revision, "about(0, 201)");
        }
        OUT.refuses(7, "ref(0, 0, 0, 2, %)", -2, -3, LOW);
        with(1).refuses(7, "ref(0, 0, 0, 2, %)", -2, LOW);
    }

    private static void refRefused() {
        Checks.test("8: false: 1, 2, 7, 8");
        Run run = with(1);
        run.refuses(1, "ref(0, %, 0, 1, NONE)", 2, 15, 16, -1, LOW, HIGH);
        run.refuses(2, "ref(0, 1, 0, 1, NONE)");
        run.refuses(2, "ref(1, 0, 0, 1, NONE)");
        run.refuses(2, "ref(2, 0, 0, 1, NONE)");
        run.refuses(7, "ref(%, 0, 0, 1, NONE)", 3, 24, -1, LOW, HIGH);
    }

    // ---- promise 9 ----

    private static void dropOfEach() {
        Checks.test("9: Reference k of the copy goes, the others behind it come up");
        for (int has = 1; has <= 6; has++) {
            for (int k = 0; k < has; k++) {
                Run run = with(has).does("drop(0, 0, " + k + ")");
                run.answers(has - 1, "about(0, 4)");
                for (int left = 0; left < has - 1; left++) {
                    int was = left < k ? left : left + 1;
                    run.answers(was % 3, "about(0, " + (200 + 2 * left) + ")");
                    run.answers(was + 10, "about(0, " + (201 + 2 * left) + ")");
                }
                run.answers(Checks.INDEX, "about(0, " + (200 + 2 * (has - 1)) + ")");
            }
        }
    }

    private static void dropOfNone() {
        Checks.test("9: 7: no such reference");
        for (int has = 0; has <= 6; has++) {
            with(has).refuses(7, "drop(0, 0, %)", -1, has, has + 1, 7, LOW, HIGH);
        }
    }

    private static void dropRefused() {
        Checks.test("9: false: 1, 2, 7");
        Run run = with(2).then("ref(1, 1, 0, 2, NONE)");
        run.refuses(1, "drop(0, %, 0)", 2, 15, 16, -1, LOW, HIGH);
        run.refuses(2, "drop(0, 1, 0)");
        run.refuses(2, "drop(1, 0, 0)");
        run.refuses(2, "drop(2, 0, 0)");
        run.refuses(7, "drop(%, 0, 0)", 3, 24, -1, LOW, HIGH);
    }

    private static void copiesAreApart() {
        Checks.test("6 to 9: of that drawing's copy alone");
        Run run = with(2).then("resize(0, 0, 8)", "put(0, 0, 0, 1)");
        run.answers(0, "about(1, 3)");
        run.answers(0, "about(1, 4)");
        Run both = run.then("resize(1, 1, 8)", "ref(1, 1, 0, 2, 5)", "put(1, 1, 0, 2)");
        both.answers(1, "about(0, 8)");
        both.answers(2, "about(1, 8)");
        both.answers(10, "about(0, 201)");
        both.then("drop(0, 0, 0)", "resize(0, 0, 0)").answers(5, "about(1, 201)");
        both.then("drop(0, 0, 0)", "resize(0, 0, 0)").answers(8, "about(1, 3)");
    }
}
