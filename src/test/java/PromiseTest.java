/** Each promise of the document by its number: ordinary inputs, the edges it names, wrong inputs. */
public final class PromiseTest {
    private static final int NONE = DrawingVault.NONE;
    private static final int LOW = Integer.MIN_VALUE;
    private static final int HIGH = Integer.MAX_VALUE;

    public static void main(String[] args) {
        promise1NewObject();
        promise2Person();
        promise3Drawing();
        promise3DrawingRoom();
        promise4Out();
        promise5Undo();
        promise6Put();
        promise7Resize();
        promise8Ref();
        promise9Drop();
        promise10CheckIn();
        promise10CheckInLoop();
        promise10CheckInRoom();
        promise10CheckInPages();
        promise11Check();
        promise12Release();
        promise12ReleaseReferences();
        promise13Withdraw();
        promise13WithdrawInUse();
        promise14Baseline();
        promise14BaselineRefused();
        promise14BaselineOfMany();
        promise14BaselineRound();
        promise15Why();
        promise16Look();
        promise17Reference();
        promise18About();
        promise19InBaseline();
        promise20User();
        promise21Difference();
        promise22FailAfter();
        promise22FailAfterAgain();
        promise22RefusedDoesNotFail();
        promise22EveryCallThrows();
        promise23Start();
        promise24Count();
        pagesOfCommands();
        copiedForward();
        copiedForwardCountsAll();
        copiedForwardLeavesForty();
        fullVault();
        lastPage();
        Checks.end();
    }

    // ---- vaults to begin with ----

    /** Persons 0 and 1 with all rights, and so many drawings of person 0. */
    private static DrawingVault with(int drawings) {
        DrawingVault v = new DrawingVault();
        v.person(0, 7);
        v.person(1, 7);
        for (int i = 0; i < drawings; i++) {
            v.drawing(0);
        }
        return v;
    }

    /** Checks in a revision of person 0 with these references (drawing, revision, ..): its number. */
    private static int revise(DrawingVault v, int drawing, int... references) {
        v.out(drawing, 0);
        for (int k = v.about(drawing, 4) - 1; k >= 0; k--) {
            v.drop(drawing, 0, k);
        }
        for (int i = 0; i < references.length; i += 2) {
            v.ref(drawing, 0, i / 2, references[i], references[i + 1]);
        }
        return v.checkIn(drawing, 0);
    }

    private static int releaseNew(DrawingVault v, int drawing, int... references) {
        int revision = revise(v, drawing, references);
        v.check(drawing, revision, 1);
        v.release(drawing, revision, 0);
        return revision;
    }

    private static void refused(String call, DrawingVault v, boolean got, int reason) {
        Checks.due(call, got, false);
        Checks.due(call + " why", v.why(), reason);
    }

    private static void refused(String call, DrawingVault v, int got, int reason) {
        Checks.due(call, got, NONE);
        Checks.due(call + " why", v.why(), reason);
    }

    private static void done(String call, DrawingVault v, boolean got) {
        Checks.due(call, got, true);
        Checks.due(call + " why", v.why(), 0);
    }

    private static void done(String call, DrawingVault v, int got, int want) {
        Checks.due(call, got, want);
        Checks.due(call + " why", v.why(), 0);
    }

    // ---- the promises ----

    private static void promise1NewObject() {
        Checks.test("promise 1");
        DrawingVault v = new DrawingVault();
        int[] want = {0, 0, 0, 400, 0, 0, 0, 0};
        for (int what = 0; what < want.length; what++) {
            Checks.due("count(" + what + ")", v.count(what), want[what]);
        }
        Checks.due("why()", v.why(), 0);
        Checks.due("NONE", NONE, -1);
        refused("drawing(0)", v, v.drawing(0), 1);
        Checks.noIndex("about(0, 0)", () -> v.about(0, 0));
        Checks.due("start()", v.start(), 0);
        done("person(0, 1)", v, v.person(0, 1));
        Checks.due("another object's count(4)", new DrawingVault().count(4), 0);
    }

    private static void promise2Person() {
        Checks.test("promise 2");
        DrawingVault v = new DrawingVault();
        done("person(0, 0)", v, v.person(0, 0));
        done("person(15, 7)", v, v.person(15, 7));
        for (int person : new int[] {-1, 16, LOW, HIGH}) {
            refused("person(" + person + ", 1)", v, v.person(person, 1), 7);
        }
        for (int rights : new int[] {-1, 8, LOW, HIGH}) {
            refused("person(0, " + rights + ")", v, v.person(0, rights), 7);
        }
        Checks.due("pages", v.count(3), 398);
        Checks.due("commands", v.count(4), 2);
        done("drawing(15)", v, v.drawing(15), 0);
        done("person(15, 6)", v, v.person(15, 6));
        refused("drawing(15) without right 1", v, v.drawing(15), 1);
        done("person(15, 0)", v, v.person(15, 0));
        refused("out(0, 15) without rights", v, v.out(0, 15), 1);
    }

    private static void promise3Drawing() {
        Checks.test("promise 3");
        DrawingVault v = new DrawingVault();
        v.person(3, 1);
        v.person(4, 6);
        done("drawing(3)", v, v.drawing(3), 0);
        done("drawing(3)", v, v.drawing(3), 1);
        refused("drawing(4)", v, v.drawing(4), 1);
        for (int person : new int[] {5, -1, 16, LOW, HIGH}) {
            refused("drawing(" + person + ")", v, v.drawing(person), 1);
        }
        int[] want = {0, 3, 0, 0, 0};
        for (int what = 0; what < want.length; what++) {
            Checks.due("look(1, 0, " + what + ")", v.look(1, 0, what), want[what]);
        }
        Checks.due("newest", v.about(1, 0), 0);
        Checks.due("out with", v.about(1, 2), NONE);
        Checks.due("drawings", v.count(0), 2);
        Checks.due("revisions", v.count(1), 2);
        Checks.due("pages", v.count(3), 394);
    }

    private static void promise3DrawingRoom() {
        Checks.test("promise 3, room");
        DrawingVault v = with(23);
        done("the 24th", v, v.drawing(0), 23);
        refused("the 25th", v, v.drawing(0), 8);
        refused("the 25th without right", v, v.drawing(2), 1);
        refused("out() of drawing 24", v, v.out(24, 0), 7);
        Checks.noIndex("about drawing 24", () -> v.about(24, 0));
        Checks.due("users of drawing 24", v.user(24, true, 0), NONE);
        DrawingVault w = with(9);
        for (int d = 0; d < 9; d++) {
            for (int r = 1; r < (d < 8 ? 12 : 4); r++) {
                revise(w, d);
            }
        }
        Checks.due("revisions", w.count(1), 100);
        Checks.due("drawings", w.count(0), 9);
        refused("drawing() with 100 revisions", w, w.drawing(0), 8);
    }

    private static void promise4Out() {
        Checks.test("promise 4");
        DrawingVault v = with(2);
        v.person(2, 4);
        v.out(0, 0);
        v.resize(0, 0, 10);
        v.put(0, 0, 9, 200);
        v.ref(0, 0, 0, 1, NONE);
        v.checkIn(0, 0);
        done("out(0, 2)", v, v.out(0, 2));
        Checks.due("whom", v.about(0, 2), 2);
        Checks.due("bytes", v.about(0, 3), 10);
        Checks.due("byte 9", v.about(0, 17), 200);
        Checks.due("references", v.about(0, 4), 1);
        refused("out(0, 0), it is out", v, v.out(0, 0), 2);
        refused("out(0, 2), it is out with them", v, v.out(0, 2), 2);
        refused("out(0, 3), no rights", v, v.out(0, 3), 1);
        refused("out(2, 3)", v, v.out(2, 3), 1);
        refused("out(0, 16)", v, v.out(0, 16), 1);
        refused("out(0, -1)", v, v.out(0, -1), 1);
        for (int d : new int[] {2, -1, 24, LOW, HIGH}) {
            refused("out(" + d + ", 0)", v, v.out(d, 0), 7);
        }
        v.put(0, 2, 9, 7);
        Checks.due("the revision stays", v.look(0, 1, 17), 200);
    }

    private static void promise5Undo() {
        Checks.test("promise 5");
        DrawingVault v = with(2);
        v.out(0, 0);
        v.resize(0, 0, 16);
        v.ref(0, 0, 0, 1, NONE);
        refused("undo(0, 1)", v, v.undo(0, 1), 2);
        refused("undo(1, 0)", v, v.undo(1, 0), 2);
        refused("undo(0, 2)", v, v.undo(0, 2), 1);
        refused("undo(2, 0)", v, v.undo(2, 0), 7);
        refused("undo(-1, 0)", v, v.undo(-1, 0), 7);
        Checks.due("chunks", v.count(2), 1);
        done("undo(0, 0)", v, v.undo(0, 0));
        Checks.due("chunks", v.count(2), 0);
        Checks.due("whom", v.about(0, 2), NONE);
        Checks.due("bytes", v.about(0, 3), 0);
        Checks.due("references", v.about(0, 4), 0);
        Checks.due("newest", v.about(0, 0), 0);
        refused("undo(0, 0) again", v, v.undo(0, 0), 2);
        done("out(0, 1)", v, v.out(0, 1));
        Checks.due("a fresh copy", v.about(0, 3), 0);
    }

    private static void promise6Put() {
        Checks.test("promise 6");
        DrawingVault v = with(2);
        v.out(0, 0);
        refused("put into no bytes", v, v.put(0, 0, 0, 1), 7);
        v.resize(0, 0, 64);
        int pages = v.count(3);
        for (int at = 0; at < 64; at++) {
            done("put(" + at + ")", v, v.put(0, 0, at, 255 - at));
        }
        for (int at = 0; at < 64; at++) {
            Checks.due("byte " + at, v.about(0, 8 + at), 255 - at);
        }
        done("put 0 over 255", v, v.put(0, 0, 0, 0));
        Checks.due("byte 0", v.about(0, 8), 0);
        Checks.due("byte 1", v.about(0, 9), 254);
        for (int at : new int[] {-1, 64, LOW, HIGH}) {
            refused("put at " + at, v, v.put(0, 0, at, 1), 7);
        }
        for (int value : new int[] {-1, 256, LOW, HIGH}) {
            refused("put of " + value, v, v.put(0, 0, 1, value), 7);
        }
        refused("put by 1", v, v.put(0, 1, 0, 1), 2);
        refused("put by 1, wrong value too", v, v.put(0, 1, 0, 256), 2);
        refused("put, not out", v, v.put(1, 0, 0, 1), 2);
        refused("put by 2", v, v.put(0, 2, 0, 1), 1);
        refused("put, no drawing", v, v.put(2, 0, 0, 1), 7);
        Checks.due("pages", v.count(3), pages);
    }

    private static void promise7Resize() {
        Checks.test("promise 7");
        DrawingVault v = with(2);
        v.out(0, 0);
        done("resize 64", v, v.resize(0, 0, 64));
        for (int at = 0; at < 64; at++) {
            v.put(0, 0, at, 9);
        }
        done("resize 11", v, v.resize(0, 0, 11));
        Checks.due("bytes", v.about(0, 3), 11);
        Checks.noIndex("byte 11", () -> v.about(0, 19));
        done("resize 30", v, v.resize(0, 0, 30));
        Checks.due("byte 10", v.about(0, 18), 9);
        for (int at = 11; at < 30; at++) {
            Checks.due("new byte " + at, v.about(0, 8 + at), 0);
        }
        done("resize 0", v, v.resize(0, 0, 0));
        Checks.due("bytes", v.about(0, 3), 0);
        for (int bytes : new int[] {-1, 65, LOW, HIGH}) {
            refused("resize " + bytes, v, v.resize(0, 0, bytes), 7);
        }
        refused("resize by 1", v, v.resize(0, 1, 65), 2);
        refused("resize, not out", v, v.resize(1, 0, 1), 2);
        refused("resize by 9", v, v.resize(0, 9, 1), 1);
        refused("resize, no drawing", v, v.resize(-1, 0, 1), 7);
    }

    private static void promise8Ref() {
        Checks.test("promise 8");
        DrawingVault v = with(3);
        v.out(0, 0);
        int pages = v.count(3);
        refused("ref 1 of none", v, v.ref(0, 0, 1, 1, NONE), 7);
        for (int k = 0; k < 6; k++) {
            done("ref " + k, v, v.ref(0, 0, k, 1 + k % 2, k == 5 ? HIGH : k - 1));
        }
        Checks.due("references", v.about(0, 4), 6);
        Checks.due("drawing of 5", v.about(0, 210), 2);
        Checks.due("revision of 5", v.about(0, 211), HIGH);
        refused("a seventh", v, v.ref(0, 0, 6, 1, NONE), 8);
        refused("a seventh to no drawing", v, v.ref(0, 0, 6, 3, NONE), 7);
        refused("a seventh below NONE", v, v.ref(0, 0, 6, 1, -2), 7);
        refused("an eighth", v, v.ref(0, 0, 7, 1, NONE), 7);
        done("ref 2 anew", v, v.ref(0, 0, 2, 1, 77));
        Checks.due("drawing of 2", v.about(0, 204), 1);
        Checks.due("revision of 2", v.about(0, 205), 77);
        Checks.due("references", v.about(0, 4), 6);
        done("to itself, as long as it is out", v, v.ref(0, 0, 0, 0, 0));
        for (int k : new int[] {-1, LOW, HIGH}) {
            refused("ref " + k, v, v.ref(0, 0, k, 1, NONE), 7);
        }
        for (int target : new int[] {-1, 3, 24, LOW, HIGH}) {
            refused("to " + target, v, v.ref(0, 0, 0, target, NONE), 7);
        }
        refused("below NONE", v, v.ref(0, 0, 0, 1, -2), 7);
        refused("by 1", v, v.ref(0, 1, 0, 9, NONE), 2);
        refused("not out", v, v.ref(1, 0, 0, 1, NONE), 2);
        refused("by 2", v, v.ref(0, 2, 0, 1, NONE), 1);
        refused("no drawing", v, v.ref(3, 0, 0, 1, NONE), 7);
        Checks.due("pages", v.count(3), pages);
    }

    private static void promise9Drop() {
        Checks.test("promise 9");
        DrawingVault v = with(4);
        v.out(0, 0);
        for (int k = 0; k < 6; k++) {
            v.ref(0, 0, k, 1 + k % 3, k);
        }
        done("drop 2", v, v.drop(0, 0, 2));
        int[] left = {0, 1, 3, 4, 5};
        Checks.due("references", v.about(0, 4), 5);
        for (int k = 0; k < left.length; k++) {
            Checks.due("drawing of " + k, v.about(0, 200 + 2 * k), 1 + left[k] % 3);
            Checks.due("revision of " + k, v.about(0, 201 + 2 * k), left[k]);
        }
        Checks.noIndex("reference 5", () -> v.about(0, 210));
        done("drop the last", v, v.drop(0, 0, 4));
        done("drop the first", v, v.drop(0, 0, 0));
        Checks.due("the first now", v.about(0, 201), 1);
        for (int k : new int[] {-1, 3, 6, LOW, HIGH}) {
            refused("drop " + k, v, v.drop(0, 0, k), 7);
        }
        refused("by 1", v, v.drop(0, 1, 9), 2);
        refused("not out", v, v.drop(1, 0, 0), 2);
        refused("by 2", v, v.drop(0, 2, 0), 1);
        refused("no drawing", v, v.drop(4, 0, 0), 7);
    }

    private static void promise10CheckIn() {
        Checks.test("promise 10");
        DrawingVault v = with(2);
        v.person(2, 2);
        v.out(0, 2);
        v.resize(0, 2, 9);
        v.put(0, 2, 8, 3);
        v.ref(0, 2, 0, 1, 0);
        refused("by 0", v, v.checkIn(0, 0), 2);
        refused("by 3", v, v.checkIn(0, 3), 1);
        refused("not out", v, v.checkIn(1, 0), 2);
        refused("no drawing", v, v.checkIn(2, 0), 7);
        done("checkIn(0, 2)", v, v.checkIn(0, 2), 1);
        int[] want = {0, 2, 9, 1, 2};
        for (int what = 0; what < want.length; what++) {
            Checks.due("look(0, 1, " + what + ")", v.look(0, 1, what), want[what]);
        }
        Checks.due("byte 8", v.look(0, 1, 16), 3);
        Checks.due("reference 0", v.reference(0, 1, 0, 0), 1);
        Checks.due("whom", v.about(0, 2), NONE);
        Checks.due("copy's bytes", v.about(0, 3), 0);
        Checks.due("newest", v.about(0, 0), 1);
        Checks.due("revisions", v.count(1), 3);
        refused("again", v, v.checkIn(0, 2), 2);
        v.out(0, 0);
        v.ref(0, 0, 1, 1, 1);
        refused("a fixed one that is not there", v, v.checkIn(0, 0), 7);
        Checks.due("still out", v.about(0, 2), 0);
        v.ref(0, 0, 1, 1, HIGH);
        refused("a fixed one far off", v, v.checkIn(0, 0), 7);
        v.ref(0, 0, 1, 1, NONE);
        done("the latest, though none is released", v, v.checkIn(0, 0), 2);
        v.out(0, 0);
        for (int k = 2; k < 6; k++) {
            v.ref(0, 0, k, 1, k == 5 ? 9 : 0);
        }
        refused("the sixth is not there", v, v.checkIn(0, 0), 7);
        v.drop(0, 0, 5);
        done("the sixth is gone", v, v.checkIn(0, 0), 3);
        v.out(0, 0);
        v.ref(0, 0, 5, 1, NONE);
        done("six references", v, v.checkIn(0, 0), 4);
        Checks.due("references", v.look(0, 4, 3), 6);
    }

    private static void promise10CheckInLoop() {
        Checks.test("promise 10, loops");
        DrawingVault v = with(5);
        v.out(0, 0);
        v.ref(0, 0, 0, 0, NONE);
        refused("itself", v, v.checkIn(0, 0), 6);
        v.ref(0, 0, 0, 0, 9);
        refused("itself, not there too", v, v.checkIn(0, 0), 6);
        v.ref(0, 0, 0, 1, NONE);
        v.checkIn(0, 0);
        revise(v, 1, 2, NONE);
        revise(v, 2, 3, 0);
        v.out(3, 0);
        v.ref(3, 0, 0, 4, NONE);
        v.ref(3, 0, 1, 0, 0);
        refused("3 > 0 > 1 > 2 > 3", v, v.checkIn(3, 0), 6);
        v.ref(3, 0, 1, 2, 0);
        refused("3 > 2 > 3, by an older revision", v, v.checkIn(3, 0), 6);
        v.drop(3, 0, 1);
        done("3 > 4", v, v.checkIn(3, 0), 1);
        revise(v, 1);
        done("1 does not use 2 any more, so 2 > 1", v, revise(v, 2, 1, NONE), 2);
        done("twice the same", v, revise(v, 0, 4, NONE, 4, 0), 2);
    }

    private static void promise10CheckInRoom() {
        Checks.test("promise 10, room");
        DrawingVault v = with(9);
        for (int r = 1; r < 12; r++) {
            done("revision " + r, v, revise(v, 0), r);
        }
        Checks.noIndex("revision 12", () -> v.look(0, 12, 0));
        refused("a thirteenth", v, revise(v, 0), 8);
        Checks.due("still out", v.about(0, 2), 0);
        v.ref(0, 0, 0, 1, 5);
        refused("a thirteenth, and not there", v, v.checkIn(0, 0), 7);
        v.ref(0, 0, 0, 0, NONE);
        refused("a thirteenth, and a loop", v, v.checkIn(0, 0), 6);
        v.undo(0, 0);
        for (int d = 1; d < 9; d++) {
            for (int r = 1; r < (d < 8 ? 12 : 4); r++) {
                revise(v, d);
            }
        }
        Checks.due("revisions", v.count(1), 100);
        refused("the 101st of all", v, revise(v, 8), 8);
        Checks.due("fewer than 12", v.about(8, 0), 3);
    }

    private static void promise10CheckInPages() {
        Checks.test("promise 10, pages");
        DrawingVault v = with(1);
        v.out(0, 0);
        int free = v.count(3);
        v.resize(0, 0, 64);
        v.checkIn(0, 0);
        Checks.due("8 equal pieces are one chunk", free - v.count(3), 3);
        v.out(0, 0);
        for (int i = 0; i < 8; i++) {
            v.put(0, 0, 8 * i, i);
        }
        free = v.count(3);
        v.checkIn(0, 0);
        Checks.due("8 chunks, one of them known", free - v.count(3), 10);
        v.out(0, 0);
        free = v.count(3);
        v.checkIn(0, 0);
        Checks.due("8 chunks, all known", free - v.count(3), 10);
        v.out(0, 0);
        v.resize(0, 0, 0);
        free = v.count(3);
        v.checkIn(0, 0);
        Checks.due("no chunk", free - v.count(3), 2);
    }

    private static void promise11Check() {
        Checks.test("promise 11");
        DrawingVault v = with(2);
        v.person(2, 5);
        v.person(3, 2);
        revise(v, 0);
        refused("by one without right 2", v, v.check(0, 1, 2), 1);
        refused("by nobody", v, v.check(0, 1, 16), 1);
        refused("not the newest", v, v.check(0, 0, 1), 2);
        refused("not the newest, by the author", v, v.check(0, 0, 0), 2);
        refused("by the author", v, v.check(0, 1, 0), 3);
        for (int r : new int[] {2, -1, 12, LOW, HIGH}) {
            refused("revision " + r, v, v.check(0, r, 3), 7);
        }
        for (int d : new int[] {2, -1, 24, LOW, HIGH}) {
            refused("drawing " + d, v, v.check(d, 0, 3), 7);
        }
        v.out(0, 3);
        refused("it is out", v, v.check(0, 1, 1), 2);
        refused("it is out, and there is no such revision", v, v.check(0, 5, 1), 2);
        v.undo(0, 3);
        done("check(0, 1, 3)", v, v.check(0, 1, 3));
        Checks.due("state", v.look(0, 1, 0), 1);
        Checks.due("author", v.look(0, 1, 1), 0);
        refused("again", v, v.check(0, 1, 3), 2);
        refused("again, by the author", v, v.check(0, 1, 0), 2);
        v.withdraw(1, 0, 0);
        refused("a withdrawn one", v, v.check(1, 0, 1), 2);
    }

    private static void promise12Release() {
        Checks.test("promise 12");
        DrawingVault v = with(1);
        v.person(2, 3);
        v.person(3, 4);
        revise(v, 0);
        refused("in work", v, v.release(0, 1, 0), 2);
        v.check(0, 1, 1);
        refused("without right 4", v, v.release(0, 1, 2), 1);
        refused("by nobody", v, v.release(0, 1, -1), 1);
        refused("no revision", v, v.release(0, 2, 3), 7);
        refused("no drawing", v, v.release(1, 0, 3), 7);
        v.out(0, 1);
        done("while it is out", v, v.release(0, 1, 3));
        Checks.due("state", v.look(0, 1, 0), 2);
        Checks.due("latest released", v.about(0, 1), 1);
        refused("again", v, v.release(0, 1, 3), 2);
        v.checkIn(0, 1);
        v.check(0, 2, 0);
        revise(v, 0);
        done("by its author, and not the newest", v, v.release(0, 2, 1));
        Checks.due("latest released", v.about(0, 1), 2);
        v.withdraw(0, 2, 0);
        refused("withdrawn", v, v.release(0, 2, 0), 2);
        Checks.due("latest released", v.about(0, 1), 1);
        v.drawing(0);
        v.check(1, 0, 1);
        done("revision 0", v, v.release(1, 0, 0));
        Checks.due("latest released", v.about(1, 1), 0);
        done("baseline of revision 0", v, v.baseline(0, 1), 1);
    }

    private static void promise12ReleaseReferences() {
        Checks.test("promise 12, references");
        DrawingVault v = with(4);
        revise(v, 1);
        revise(v, 0, 1, 1, 2, NONE);
        v.check(0, 1, 1);
        refused("none is released", v, v.release(0, 1, 0), 4);
        releaseNew(v, 2);
        v.check(1, 1, 1);
        refused("the fixed one is checked only", v, v.release(0, 1, 0), 4);
        v.release(1, 1, 0);
        done("both are released", v, v.release(0, 1, 0));
        revise(v, 1);
        revise(v, 3, 1, 0, 2, NONE);
        v.check(3, 1, 1);
        refused("another one than the fixed one is released", v, v.release(3, 1, 0), 4);
        revise(v, 3, 1, NONE);
        v.check(3, 2, 1);
        done("an older one is released", v, v.release(3, 2, 0));
    }

    private static void promise13Withdraw() {
        Checks.test("promise 13");
        DrawingVault v = with(2);
        v.person(2, 3);
        revise(v, 0);
        refused("without right 4", v, v.withdraw(0, 1, 2), 1);
        refused("by nobody", v, v.withdraw(0, 1, 9), 1);
        refused("no revision", v, v.withdraw(0, 2, 0), 7);
        refused("no drawing", v, v.withdraw(2, 0, 0), 7);
        done("in work", v, v.withdraw(0, 0, 0));
        v.check(0, 1, 1);
        v.out(0, 1);
        done("checked, while it is out", v, v.withdraw(0, 1, 0));
        Checks.due("state", v.look(0, 1, 0), 3);
        refused("again", v, v.withdraw(0, 1, 0), 2);
        v.undo(0, 1);
        releaseNew(v, 1);
        done("released", v, v.withdraw(1, 1, 0));
        Checks.due("latest released", v.about(1, 1), NONE);
        Checks.due("newest", v.about(1, 0), 1);
    }

    private static void promise13WithdrawInUse() {
        Checks.test("promise 13, in use");
        DrawingVault v = with(4);
        releaseNew(v, 2);
        releaseNew(v, 1, 2, 1);
        refused("a released one has it fixed", v, v.withdraw(2, 1, 0), 5);
        done("another revision of it", v, v.withdraw(2, 0, 0));
        refused("withdrawn comes before in use", v, v.withdraw(2, 0, 0), 2);
        revise(v, 3, 2, 1);
        done("what had it fixed", v, v.withdraw(1, 1, 0));
        done("one in work has it fixed", v, v.withdraw(2, 1, 0));
        releaseNew(v, 2);
        releaseNew(v, 1, 2, NONE);
        v.baseline(4, 2);
        refused("a baseline has it", v, v.withdraw(2, 2, 0), 5);
        done("the baseline does not have the other", v, v.withdraw(1, 2, 0));
        releaseNew(v, 2);
        v.baseline(0, 2);
        refused("baseline 0 has it", v, v.withdraw(2, 3, 0), 5);
        releaseNew(v, 2);
        v.baseline(9, 2);
        refused("baseline 9 has it", v, v.withdraw(2, 4, 0), 5);
        releaseNew(v, 1);
        releaseNew(v, 0, 1, 3);
        refused("drawing 0 has it fixed", v, v.withdraw(1, 3, 0), 5);
        DrawingVault w = with(2);
        releaseNew(w, 1);
        releaseNew(w, 0, 1, NONE);
        done("a reference that is not fixed", w, w.withdraw(1, 1, 0));
        Checks.due("it resolves to none", w.reference(0, 1, 0, 2), NONE);
    }

    private static void promise14Baseline() {
        Checks.test("promise 14");
        DrawingVault v = with(5);
        releaseNew(v, 4);
        releaseNew(v, 3, 4, NONE);
        releaseNew(v, 1, 4, 1, 3, NONE);
        revise(v, 1, 2, NONE);
        done("baseline(9, 1)", v, v.baseline(9, 1), 3);
        int[] want = {1, 1, 3, 1, 4, 1};
        for (int i = 0; i < want.length; i++) {
            Checks.due("in it, " + i, v.inBaseline(9, i / 2, i % 2), want[i]);
        }
        releaseNew(v, 4);
        Checks.due("it stays as it was", v.inBaseline(9, 2, 1), 1);
        done("baseline(0, 4)", v, v.baseline(0, 4), 1);
        Checks.due("revision", v.inBaseline(0, 0, 1), 2);
        Checks.due("baselines", v.count(6), 2);
    }

    private static void promise14BaselineRefused() {
        Checks.test("promise 14, refused");
        DrawingVault v = with(4);
        refused("none is released", v, v.baseline(0, 0), 2);
        refused("no drawing", v, v.baseline(0, 4), 7);
        refused("no drawing", v, v.baseline(0, -1), 7);
        releaseNew(v, 2);
        for (int n : new int[] {-1, 10, LOW, HIGH}) {
            refused("baseline " + n, v, v.baseline(n, 2), 7);
            refused("baseline " + n + ", none is released", v, v.baseline(n, 0), 2);
        }
        done("baseline(3, 2)", v, v.baseline(3, 2), 1);
        refused("it is there", v, v.baseline(3, 2), 2);
        refused("it is there, and there is no drawing", v, v.baseline(3, 9), 2);
        releaseNew(v, 1, 2, 1);
        releaseNew(v, 2);
        releaseNew(v, 0, 1, NONE, 2, NONE);
        refused("revisions 1 and 2 of drawing 2", v, v.baseline(4, 0), 2);
        releaseNew(v, 3);
        releaseNew(v, 0, 3, NONE, 1, NONE);
        v.withdraw(3, 1, 0);
        refused("a reference resolves to none", v, v.baseline(4, 0), 4);
        refused("a reference resolves to none, and no such n", v, v.baseline(10, 0), 4);
        releaseNew(v, 3);
        releaseNew(v, 0, 3, NONE, 1, NONE, 2, NONE);
        v.withdraw(3, 2, 0);
        refused("it resolves to none, and two revisions", v, v.baseline(4, 0), 2);
        Checks.due("baselines", v.count(6), 1);
    }

    private static void promise14BaselineOfMany() {
        Checks.test("promise 14, pages");
        DrawingVault v = with(24);
        releaseNew(v, 0);
        for (int d = 1; d < 24; d++) {
            releaseNew(v, d, d - 1, NONE);
        }
        int[] roots = {0, 7, 8, 15, 16, 23};
        int[] pages = {2, 2, 3, 3, 4, 4};
        for (int n = 0; n < roots.length; n++) {
            int free = v.count(3);
            done("of " + roots[n], v, v.baseline(n, roots[n]), roots[n] + 1);
            Checks.due("pages of " + roots[n], free - v.count(3), pages[n]);
        }
        Checks.due("the last one", v.inBaseline(5, 23, 0), 23);
    }

    /** Released revisions may refer in a round, as only the newest ones may not. */
    private static void promise14BaselineRound() {
        Checks.test("promise 14, round");
        DrawingVault v = with(2);
        releaseNew(v, 1);
        releaseNew(v, 0, 1, NONE);
        revise(v, 0);
        done("1 uses 0", v, releaseNew(v, 1, 0, NONE), 2);
        done("0 > 1 > 0", v, v.baseline(0, 0), 2);
        Checks.due("revision of 0", v.inBaseline(0, 0, 1), 1);
        Checks.due("revision of 1", v.inBaseline(0, 1, 1), 2);
    }

    private static void promise15Why() {
        Checks.test("promise 15");
        DrawingVault v = with(1);
        refused("out(0, 9)", v, v.out(0, 9), 1);
        v.count(0);
        v.failAfter(-1);
        v.user(0, true, 0);
        Checks.noIndex("look", () -> v.look(9, 9, 9));
        Checks.due("questions do not count", v.why(), 1);
        v.start();
        Checks.due("nor does start()", v.why(), 1);
        v.failAfter(0);
        Checks.fails("out(0, 0)", () -> v.out(0, 0) ? 1 : 0);
        Checks.due("one that threw does not count", v.why(), 1);
        v.start();
        done("out(0, 0)", v, v.out(0, 0));
        refused("put", v, v.put(0, 0, 0, 0), 7);
        done("resize", v, v.resize(0, 0, 1));
    }

    private static void promise16Look() {
        Checks.test("promise 16");
        DrawingVault v = with(2);
        v.out(0, 1);
        v.resize(0, 1, 64);
        v.put(0, 1, 63, 128);
        v.put(0, 1, 0, 255);
        v.ref(0, 1, 0, 1, NONE);
        v.checkIn(0, 1);
        int[] want = {0, 1, 64, 1, 3};
        for (int what = 0; what < want.length; what++) {
            Checks.due("what " + what, v.look(0, 1, what), want[what]);
        }
        Checks.due("byte 0", v.look(0, 1, 8), 255);
        Checks.due("byte 1", v.look(0, 1, 9), 0);
        Checks.due("byte 63", v.look(0, 1, 71), 128);
        for (int what : new int[] {-1, 5, 6, 7, 72, 200, LOW, LOW + 8, HIGH}) {
            Checks.noIndex("what " + what, () -> v.look(0, 1, what));
        }
        Checks.noIndex("byte 0 of none", () -> v.look(0, 0, 8));
        for (int d : new int[] {-1, 2, 24, LOW, HIGH}) {
            Checks.noIndex("drawing " + d, () -> v.look(d, 0, 0));
        }
        for (int r : new int[] {-1, 2, 12, LOW, HIGH}) {
            Checks.noIndex("revision " + r, () -> v.look(0, r, 0));
        }
        v.out(0, 1);
        v.resize(0, 1, 20);
        v.put(0, 1, 0, 0);
        v.checkIn(0, 1);
        Checks.due("8 and 4 zero bytes are two chunks", v.look(0, 2, 4), 2);
    }

    private static void promise17Reference() {
        Checks.test("promise 17");
        DrawingVault v = with(3);
        revise(v, 0, 1, NONE, 2, 0);
        Checks.due("drawing of 0", v.reference(0, 1, 0, 0), 1);
        Checks.due("revision of 0", v.reference(0, 1, 0, 1), NONE);
        Checks.due("0 resolves to", v.reference(0, 1, 0, 2), NONE);
        Checks.due("drawing of 1", v.reference(0, 1, 1, 0), 2);
        Checks.due("revision of 1", v.reference(0, 1, 1, 1), 0);
        Checks.due("1 resolves to", v.reference(0, 1, 1, 2), 0);
        releaseNew(v, 1);
        releaseNew(v, 1);
        revise(v, 1);
        releaseNew(v, 2);
        Checks.due("0 resolves to the latest released", v.reference(0, 1, 0, 2), 2);
        Checks.due("1 resolves to the fixed one", v.reference(0, 1, 1, 2), 0);
        v.withdraw(1, 2, 0);
        Checks.due("0 resolves to the one before", v.reference(0, 1, 0, 2), 1);
        v.withdraw(2, 0, 0);
        Checks.due("1 resolves to a withdrawn one", v.reference(0, 1, 1, 2), 0);
        for (int k : new int[] {-1, 2, 6, LOW, HIGH}) {
            Checks.noIndex("k " + k, () -> v.reference(0, 1, k, 0));
        }
        for (int what : new int[] {-1, 3, LOW, HIGH}) {
            Checks.noIndex("what " + what, () -> v.reference(0, 1, 0, what));
        }
        Checks.noIndex("revision 0 has none", () -> v.reference(0, 0, 0, 0));
        Checks.noIndex("no revision", () -> v.reference(0, 2, 0, 0));
        Checks.noIndex("no drawing", () -> v.reference(3, 0, 0, 0));
    }

    private static void promise18About() {
        Checks.test("promise 18");
        DrawingVault v = with(2);
        int[] empty = {0, NONE, NONE, 0, 0};
        for (int what = 0; what < empty.length; what++) {
            Checks.due("without, what " + what, v.about(0, what), empty[what]);
        }
        Checks.noIndex("without, byte 0", () -> v.about(0, 8));
        Checks.noIndex("without, reference 0", () -> v.about(0, 200));
        releaseNew(v, 0);
        revise(v, 0);
        v.out(0, 1);
        v.resize(0, 1, 64);
        v.put(0, 1, 63, 77);
        v.ref(0, 1, 0, 1, 5);
        v.ref(0, 1, 1, 0, NONE);
        int[] full = {2, 1, 1, 64, 2};
        for (int what = 0; what < full.length; what++) {
            Checks.due("with, what " + what, v.about(0, what), full[what]);
        }
        Checks.due("byte 63", v.about(0, 71), 77);
        int[] references = {1, 5, 0, NONE};
        for (int i = 0; i < references.length; i++) {
            Checks.due("what " + (200 + i), v.about(0, 200 + i), references[i]);
        }
        for (int what : new int[] {-1, 5, 7, 72, 199, 204, 212, LOW, LOW + 9, HIGH}) {
            Checks.noIndex("what " + what, () -> v.about(0, what));
        }
        for (int d : new int[] {-1, 2, 24, LOW, HIGH}) {
            Checks.noIndex("drawing " + d, () -> v.about(d, 0));
        }
    }

    private static void promise19InBaseline() {
        Checks.test("promise 19");
        DrawingVault v = with(3);
        releaseNew(v, 0);
        releaseNew(v, 0);
        releaseNew(v, 2, 0, NONE);
        v.baseline(5, 2);
        Checks.due("how many", v.inBaseline(5, NONE, 0), 2);
        Checks.due("first drawing", v.inBaseline(5, 0, 0), 0);
        Checks.due("first revision", v.inBaseline(5, 0, 1), 2);
        Checks.due("second drawing", v.inBaseline(5, 1, 0), 2);
        Checks.due("second revision", v.inBaseline(5, 1, 1), 1);
        for (int n : new int[] {-1, 0, 4, 10, LOW, HIGH}) {
            Checks.noIndex("n " + n, () -> v.inBaseline(n, NONE, 0));
        }
        for (int k : new int[] {-2, 2, LOW, HIGH}) {
            Checks.noIndex("k " + k, () -> v.inBaseline(5, k, 0));
        }
        for (int what : new int[] {-1, 2, LOW, HIGH}) {
            Checks.noIndex("what " + what, () -> v.inBaseline(5, 0, what));
        }
        Checks.noIndex("NONE, what 1", () -> v.inBaseline(5, NONE, 1));
    }

    private static void promise20User() {
        Checks.test("promise 20");
        DrawingVault v = with(6);
        revise(v, 4, 5, NONE);
        revise(v, 0, 4, 0, 4, NONE);
        revise(v, 2, 4, 1, 5, NONE);
        revise(v, 1, 0, NONE);
        users("directly", v, 5, false, 2, 4);
        users("by others", v, 5, true, 0, 1, 2, 4);
        users("directly", v, 4, false, 0, 2);
        users("by others", v, 4, true, 0, 1, 2);
        users("nobody", v, 1, true);
        DrawingVault u = with(3);
        revise(u, 0, 2, NONE);
        revise(u, 1, 0, NONE);
        users("1 > 0 > 2, directly", u, 2, false, 0);
        users("1 > 0 > 2, by others", u, 2, true, 0, 1);
        u.out(2, 0);
        u.ref(2, 0, 0, 1, NONE);
        refused("1 > 0 > 2 > 1", u, u.checkIn(2, 0), 6);
        v.out(3, 0);
        v.ref(3, 0, 0, 5, NONE);
        users("a working copy does not use", v, 5, false, 2, 4);
        revise(v, 0);
        users("nor does an older revision", v, 4, true, 2);
        for (int d : new int[] {-1, 6, 24, LOW, HIGH}) {
            Checks.due("drawing " + d, v.user(d, true, 0), NONE);
        }
        Checks.due("k -1", v.user(5, true, -1), NONE);
        Checks.due("k LOW", v.user(5, false, LOW), NONE);
        Checks.due("k HIGH", v.user(5, false, HIGH), NONE);
        DrawingVault w = with(24);
        for (int d = 0; d < 23; d++) {
            revise(w, d, d + 1, NONE);
        }
        Checks.due("a row of 24", w.user(23, true, 0), 0);
        Checks.due("a row of 24, the last", w.user(23, true, 22), 22);
        Checks.due("a row of 24, no more", w.user(23, true, 23), NONE);
        w.out(23, 0);
        w.ref(23, 0, 0, 0, NONE);
        refused("a round of 24", w, w.checkIn(23, 0), 6);
    }

    private static void users(String test, DrawingVault v, int drawing, boolean all, int... want) {
        for (int k = 0; k < want.length; k++) {
            Checks.due(test + ", user " + k + " of " + drawing, v.user(drawing, all, k), want[k]);
        }
        Checks.due(test + ", no more of " + drawing, v.user(drawing, all, want.length), NONE);
    }

    private static void promise21Difference() {
        Checks.test("promise 21");
        DrawingVault v = with(1);
        v.out(0, 0);
        v.resize(0, 0, 33);
        v.checkIn(0, 0);
        v.out(0, 0);
        v.put(0, 0, 7, 1);
        v.put(0, 0, 16, 1);
        v.checkIn(0, 0);
        v.out(0, 0);
        v.resize(0, 0, 36);
        v.checkIn(0, 0);
        places("none and 5", v, 0, 1, 0, 1, 2, 3, 4);
        places("5 and none", v, 1, 0, 0, 1, 2, 3, 4);
        places("bytes 7 and 16", v, 1, 2, 0, 2);
        places("the last is longer", v, 2, 3, 4);
        places("all of it", v, 1, 3, 0, 2, 4);
        places("itself", v, 3, 3);
        places("empty", v, 0, 0);
        Checks.due("k -1", v.difference(0, 1, 2, -1), NONE);
        Checks.due("k HIGH", v.difference(0, 1, 2, HIGH), NONE);
        for (int r : new int[] {-1, 4, 12, LOW, HIGH}) {
            Checks.noIndex("revision " + r, () -> v.difference(0, r, 0, 0));
            Checks.noIndex("other " + r, () -> v.difference(0, 0, r, 0));
            Checks.noIndex("other " + r + ", k -1", () -> v.difference(0, 0, r, -1));
        }
        Checks.noIndex("drawing 1", () -> v.difference(1, 0, 0, 0));
        Checks.noIndex("drawing -1", () -> v.difference(-1, 0, 0, 0));
    }

    private static void places(String test, DrawingVault v, int revision, int other, int... want) {
        for (int k = 0; k < want.length; k++) {
            Checks.due(test + ", place " + k, v.difference(0, revision, other, k), want[k]);
        }
        Checks.due(test + ", no more", v.difference(0, revision, other, want.length), NONE);
    }

    private static void promise22FailAfter() {
        Checks.test("promise 22");
        DrawingVault v = with(1);
        Checks.due("failAfter(-1)", v.failAfter(-1), false);
        Checks.due("failAfter(LOW)", v.failAfter(LOW), false);
        Checks.due("failAfter(3)", v.failAfter(3), true);
        done("1 page", v, v.person(2, 1));
        done("3 pages in all", v, v.drawing(0), 1);
        Checks.due("not yet", v.count(7), 0);
        int free = v.count(3);
        int commands = v.count(4);
        Checks.fails("a fourth", () -> v.person(2, 7) ? 1 : 0);
        Checks.due("failed", v.count(7), 1);
        Checks.due("nothing written", v.count(3), free);
        Checks.due("no command", v.count(4), commands);
        Checks.due("failAfter(9) then", v.failAfter(9), false);
        Checks.due("start()", v.start(), 0);
        Checks.due("works again", v.count(7), 0);
        refused("it did nothing", v, v.check(0, 0, 2), 1);
        v.failAfter(1);
        Checks.fails("2 pages do not go in part", () -> v.drawing(0));
        v.start();
        Checks.due("drawings", v.count(0), 2);
        v.failAfter(0);
        Checks.fails("after 0 pages", () -> v.out(0, 0) ? 1 : 0);
        Checks.due("not out", v.about(0, 2), NONE);
    }

    private static void promise22FailAfterAgain() {
        Checks.test("promise 22, again");
        DrawingVault v = with(1);
        v.failAfter(0);
        v.failAfter(-1);
        v.failAfter(2);
        done("in place of what was told", v, v.drawing(0), 1);
        v.failAfter(2);
        done("from then on", v, v.drawing(0), 2);
        v.failAfter(HIGH);
        for (int i = 0; i < 20; i++) {
            done("far ahead", v, v.drawing(0), 3 + i);
        }
        v.failAfter(0);
        v.start();
        done("start() calls it off", v, v.drawing(0), 23);
    }

    private static void promise22RefusedDoesNotFail() {
        Checks.test("promise 22, refused");
        DrawingVault v = with(1);
        v.failAfter(0);
        refused("drawing(9)", v, v.drawing(9), 1);
        refused("person(0, 8)", v, v.person(0, 8), 7);
        refused("undo", v, v.undo(0, 0), 2);
        refused("baseline", v, v.baseline(0, 0), 2);
        Checks.due("not failed", v.count(7), 0);
        Checks.fails("out", () -> v.out(0, 0) ? 1 : 0);
        v.start();
        v.out(0, 0);
        v.failAfter(0);
        done("what is no command", v, v.resize(0, 0, 5));
        done("what is no command", v, v.put(0, 0, 4, 5));
        done("what is no command", v, v.ref(0, 0, 0, 0, NONE));
        refused("a loop", v, v.checkIn(0, 0), 6);
        done("what is no command", v, v.drop(0, 0, 0));
        Checks.fails("checkIn", () -> v.checkIn(0, 0));
    }

    private static void promise22EveryCallThrows() {
        Checks.test("promise 22, every call");
        DrawingVault v = with(1);
        v.out(0, 0);
        v.resize(0, 0, 8);
        v.failAfter(0);
        Checks.fails("person", () -> v.person(2, 1) ? 1 : 0);
        for (int p : new int[] {0, 9}) {
            Checks.fails("person", () -> v.person(p, p) ? 1 : 0);
            Checks.fails("drawing", () -> v.drawing(p));
            Checks.fails("out", () -> v.out(0, p) ? 1 : 0);
            Checks.fails("undo", () -> v.undo(0, p) ? 1 : 0);
            Checks.fails("put", () -> v.put(0, p, 0, 1) ? 1 : 0);
            Checks.fails("resize", () -> v.resize(0, p, 1) ? 1 : 0);
            Checks.fails("ref", () -> v.ref(0, p, 0, 0, 0) ? 1 : 0);
            Checks.fails("drop", () -> v.drop(0, p, 0) ? 1 : 0);
            Checks.fails("checkIn", () -> v.checkIn(0, p));
            Checks.fails("check", () -> v.check(0, 0, p) ? 1 : 0);
            Checks.fails("release", () -> v.release(0, 0, p) ? 1 : 0);
            Checks.fails("withdraw", () -> v.withdraw(0, 0, p) ? 1 : 0);
            Checks.fails("baseline", () -> v.baseline(p, 0));
        }
        Checks.due("questions answer", v.look(0, 0, 1), 0);
        Checks.due("questions answer", v.about(0, 2), 0);
        Checks.due("questions answer", v.user(0, true, 0), NONE);
        Checks.due("questions answer", v.difference(0, 0, 0, 0), NONE);
        Checks.noIndex("questions answer", () -> v.inBaseline(0, NONE, 0));
        Checks.due("start()", v.start(), 1);
        Checks.due("bytes as they were written", v.about(0, 3), 0);
    }

    private static void promise23Start() {
        Checks.test("promise 23");
        DrawingVault v = with(3);
        v.out(0, 0);
        v.out(1, 1);
        v.resize(0, 0, 8);
        v.put(0, 0, 0, 5);
        v.ref(0, 0, 0, 2, NONE);
        v.ref(0, 0, 1, 2, 7);
        v.resize(1, 1, 3);
        v.person(5, 1);
        v.put(0, 0, 0, 6);
        v.resize(0, 0, 40);
        v.drop(0, 0, 0);
        v.ref(0, 0, 1, 1, NONE);
        v.resize(1, 1, 0);
        int chunks = v.count(2);
        Checks.due("chunks in memory", chunks, 2);
        Checks.due("start()", v.start(), 2);
        Checks.due("bytes", v.about(0, 3), 8);
        Checks.due("byte 0", v.about(0, 8), 5);
        Checks.due("references", v.about(0, 4), 2);
        Checks.due("drawing of 0", v.about(0, 200), 2);
        Checks.due("revision of 1", v.about(0, 203), 7);
        Checks.due("bytes of the other", v.about(1, 3), 3);
        Checks.due("whom", v.about(1, 2), 1);
        Checks.due("chunks as written", v.count(2), 2);
        v.put(0, 0, 0, 9);
        refused("what was refused writes nothing", v, v.undo(0, 1), 2);
        v.start();
        Checks.due("byte 0", v.about(0, 8), 5);
        v.put(0, 0, 0, 9);
        v.undo(1, 1);
        Checks.due("start()", v.start(), 1);
        Checks.due("written by another's undo()", v.about(0, 8), 9);
        v.undo(0, 0);
        v.out(0, 1);
        Checks.due("start()", v.start(), 1);
        Checks.due("out() wrote the copy", v.about(0, 3), 0);
        Checks.due("commands", v.count(4), 11);
    }

    private static void promise24Count() {
        Checks.test("promise 24");
        DrawingVault v = with(2);
        v.out(0, 0);
        v.resize(0, 0, 17);
        Checks.due("chunks: two of zeros, one of a byte", v.count(2), 2);
        v.put(0, 0, 0, 1);
        Checks.due("chunks", v.count(2), 3);
        v.checkIn(0, 0);
        v.out(0, 0);
        Checks.due("a copy shares them", v.count(2), 3);
        v.out(1, 1);
        v.resize(1, 1, 8);
        Checks.due("another drawing shares them", v.count(2), 3);
        v.resize(1, 1, 7);
        Checks.due("not as long", v.count(2), 4);
        v.undo(1, 1);
        Checks.due("kept as long as one has it", v.count(2), 3);
        v.withdraw(0, 1, 0);
        Checks.due("a withdrawn one has it", v.count(2), 3);
        int[] want = {2, 3, 3, 400 - 6 - 1 - 5 - 4, 10, 0, 0, 0};
        for (int what = 0; what < want.length; what++) {
            Checks.due("count(" + what + ")", v.count(what), want[what]);
        }
        for (int what : new int[] {-1, 8, LOW, HIGH}) {
            Checks.due("count(" + what + ")", v.count(what), NONE);
        }
    }

    // ---- pages ----

    private static void pagesOfCommands() {
        Checks.test("pages");
        DrawingVault v = new DrawingVault();
        int free = 400;
        v.person(0, 7);
        v.person(1, 7);
        Checks.due("person()", v.count(3), free -= 2);
        v.drawing(0);
        Checks.due("drawing()", v.count(3), free -= 2);
        v.out(0, 0);
        Checks.due("out()", v.count(3), free -= 1);
        v.undo(0, 0);
        Checks.due("undo()", v.count(3), free -= 1);
        v.out(0, 0);
        v.checkIn(0, 0);
        Checks.due("out() and checkIn()", v.count(3), free -= 3);
        v.check(0, 1, 1);
        Checks.due("check()", v.count(3), free -= 1);
        v.release(0, 1, 1);
        Checks.due("release()", v.count(3), free -= 1);
        v.baseline(0, 0);
        Checks.due("baseline()", v.count(3), free -= 2);
        v.withdraw(0, 0, 1);
        Checks.due("withdraw()", v.count(3), free -= 1);
        Checks.due("commands", v.count(4), 11);
        v.release(0, 0, 9);
        v.drawing(9);
        v.baseline(0, 0);
        Checks.due("refused", v.count(3), free);
        Checks.due("commands", v.count(4), 11);
    }

    private static void copiedForward() {
        Checks.test("copied forward");
        DrawingVault v = new DrawingVault();
        for (int i = 0; i < 360; i++) {
            v.person(i % 3, 1 + i % 7);
        }
        Checks.due("40 pages are left", v.count(3), 40);
        Checks.due("not yet", v.count(5), 0);
        v.failAfter(2);
        done("39 would be left", v, v.person(3, 0));
        Checks.due("3 persons have rights", v.count(3), 397);
        Checks.due("once", v.count(5), 1);
        Checks.due("commands", v.count(4), 361);
        done("copying takes no part in n", v, v.person(3, 0));
        Checks.fails("a third page", () -> v.person(3, 0) ? 1 : 0);
    }

    private static void copiedForwardCountsAll() {
        Checks.test("copied forward, all of it");
        DrawingVault v = with(10);
        v.person(2, 1);
        v.person(2, 0);
        releaseNew(v, 0);
        for (int d = 1; d < 9; d++) {
            releaseNew(v, d, d - 1, NONE);
        }
        v.baseline(0, 8);
        v.baseline(1, 7);
        v.out(0, 0);
        v.resize(0, 0, 20);
        v.checkIn(0, 0);
        v.out(1, 0);
        v.resize(1, 0, 64);
        v.put(1, 0, 0, 1);
        v.out(2, 1);
        writeUntilLeft(v, 40);
        Checks.due("not yet", v.count(5), 0);
        v.person(0, 7);
        // 2 persons, 10 drawings, 20 revisions, 2 out, 2 chunks, baselines of 9 and 8
        Checks.due("pages", v.count(3), 400 - 2 - 20 - 20 - 2 - 2 - 3 - 2);
        Checks.due("once", v.count(5), 1);
        Checks.due("copies stay", v.about(1, 8), 1);
    }

    /** 24 drawings, and so many revisions of 8 chunks that nobody else has. */
    private static DrawingVault withChunks(int revisions) {
        DrawingVault v = with(24);
        for (int i = 0; i < revisions; i++) {
            v.out(i % 24, 0);
            if (i < 24) {
                v.resize(i, 0, 64);
            }
            for (int piece = 0; piece < 8; piece++) {
                v.put(i % 24, 0, 8 * piece + i / 24, 8 * (i % 24) + piece + 1);
            }
            v.checkIn(i % 24, 0);
        }
        return v;
    }

    private static void writeUntilLeft(DrawingVault v, int pages) {
        for (int n = v.count(3); n > pages; n--) {
            v.person(0, 7);
        }
    }

    private static void copiedForwardLeavesForty() {
        Checks.test("copied forward, 40 are left");
        DrawingVault v = withChunks(31);
        for (int person = 2; person < 9; person++) {
            v.person(person, 1);
        }
        // 9 persons, 24 drawings, 55 revisions, 248 chunks
        writeUntilLeft(v, 40);
        int copied = v.count(5);
        v.person(0, 7);
        Checks.due("360 pages leave 40", v.count(3), 40);
        Checks.due("done", v.count(5), copied + 1);
        v.person(9, 1);
        Checks.due("361 pages leave 39", v.count(3), 39);
        Checks.due("not done", v.count(5), copied + 1);
        v.person(9, 0);
        Checks.due("360 pages again", v.count(3), 40);
        Checks.due("done again", v.count(5), copied + 2);
    }

    private static void lastPage() {
        Checks.test("the last page");
        DrawingVault v = withChunks(32);
        v.out(0, 0);
        writeUntilLeft(v, 1);
        done("undo()", v, v.undo(0, 0));
        Checks.due("none is left", v.count(3), 0);
        DrawingVault w = withChunks(32);
        writeUntilLeft(w, 1);
        done("check()", w, w.check(23, 1, 1));
        Checks.due("none is left", w.count(3), 0);
        refused("release()", w, w.release(23, 1, 1), 8);
    }

    /** So many chunks that copying forward would leave too little: it is not done, and pages end. */
    private static void fullVault() {
        Checks.test("a full vault");
        DrawingVault v = withChunks(32);
        Checks.due("once only", v.count(5), 1);
        Checks.due("chunks", v.count(2), 256);
        writeUntilLeft(v, 1);
        v.failAfter(0);
        refused("2 pages, 1 is left", v, v.drawing(1), 8);
        v.start();
        done("1 page, 1 is left", v, v.out(0, 0));
        Checks.due("none is left", v.count(3), 0);
        refused("person()", v, v.person(2, 1), 8);
        refused("person(), no such one", v, v.person(16, 1), 7);
        refused("out()", v, v.out(1, 0), 8);
        refused("undo()", v, v.undo(0, 0), 8);
        refused("checkIn()", v, v.checkIn(0, 0), 8);
        refused("check()", v, v.check(1, 1, 1), 2);
        refused("check()", v, v.check(23, 1, 1), 8);
        refused("withdraw()", v, v.withdraw(23, 1, 1), 8);
        refused("baseline()", v, v.baseline(0, 1), 2);
        done("what is no command", v, v.put(0, 0, 0, 0));
        Checks.due("not copied forward", v.count(5), 1);
        v.failAfter(0);
        refused("room comes before a failure", v, v.person(2, 1), 8);
        Checks.due("not failed", v.count(7), 0);
    }
}
