/** The sentences of 'Terms' on CHUNKS, each at its edges. */
public final class ChunksTest {
    private static final Run OUT = Vaults.drawings(3).then("out(0, 0)");

    public static void main(String[] args) {
        piecesOf8Bytes();
        equalPiecesOfOneContent();
        equalByteByByte();
        equalIfAsLong();
        sharedByRevisionsAndCopies();
        keptByARevision();
        keptByACopy();
        keptAsWritten();
        manyChunks();
        Checks.end();
    }

    private static void piecesOf8Bytes() {
        Checks.test("contents are cut into pieces of 8 bytes (the last one may be shorter)");
        Run full = OUT.then("resize(0, 0, 64)");
        for (int at = 0; at < 64; at++) {
            full = full.then("put(0, 0, " + at + ", " + (at + 1) + ")");
        }
        for (int bytes = 0; bytes <= 64; bytes++) {
            int pieces = (bytes + 7) / 8;
            Run cut = full.does("resize(0, 0, " + bytes + ")");
            cut.answers(pieces, "count(2)");
            Run in = cut.does(1, "checkIn(0, 0)");
            in.answers(pieces, "count(2)");
            in.answers(pieces, "look(0, 1, 4)");
        }
    }

    private static void equalPiecesOfOneContent() {
        Checks.test("equal pieces are one chunk, in one content");
        for (int bytes = 0; bytes <= 64; bytes++) {
            int due = bytes == 0 ? 0 : bytes < 8 || bytes % 8 == 0 ? 1 : 2;
            Run zeros = OUT.then("resize(0, 0, " + bytes + ")");
            zeros.answers(due, "count(2)");
            zeros.then("checkIn(0, 0)").answers(due, "look(0, 1, 4)");
        }
    }

    private static void equalByteByByte() {
        Checks.test("byte by byte");
        Run zeros = OUT.then("resize(0, 0, 64)");
        for (int at = 0; at < 64; at++) {
            for (int value : new int[] {1, 128, 255}) {
                Run other = zeros.then("put(0, 0, " + at + ", " + value + ")");
                other.answers(2, "count(2)");
                other.then("put(0, 0, " + at + ", 0)").answers(1, "count(2)");
                other.then("put(0, 0, " + (at + 8) % 64 + ", " + value + ")").answers(2, "count(2)");
                other.then("put(0, 0, " + (at + 9) % 64 + ", " + value + ")").answers(3, "count(2)");
            }
        }
    }

    private static void equalIfAsLong() {
        Checks.test("as long");
        Run eight = OUT.then("resize(0, 0, 8)", "out(1, 0)");
        for (int bytes = 1; bytes < 8; bytes++) {
            eight.then("resize(1, 0, " + bytes + ")").answers(2, "count(2)");
        }
        eight.then("resize(1, 0, 8)").answers(1, "count(2)");
        eight.then("resize(1, 0, 9)").answers(2, "count(2)");
        Run cut = OUT.then("resize(0, 0, 64)", "put(0, 0, 7, 9)", "resize(0, 0, 7)", "out(1, 0)", "resize(1, 0, 7)");
        cut.answers(1, "count(2)");
        cut.then("resize(0, 0, 8)", "resize(1, 0, 8)").answers(1, "count(2)");
    }

    private static void sharedByRevisionsAndCopies() {
        Checks.test("equal pieces of revisions and working copies are one chunk");
        Run one = OUT.then("resize(0, 0, 8)", "put(0, 0, 3, 5)");
        one.answers(1, "count(2)");
        Run copies = one.then("out(1, 1)", "resize(1, 1, 16)", "put(1, 1, 11, 5)");
        copies.answers(2, "count(2)");
        copies.then("put(1, 1, 3, 5)").answers(1, "count(2)");
        Run both = copies.then("checkIn(0, 0)", "checkIn(1, 1)");
        both.answers(2, "count(2)");
        both.answers(1, "look(0, 1, 4)");
        both.answers(2, "look(1, 1, 4)");
        both.then("out(0, 0)", "checkIn(0, 0)").answers(2, "count(2)");
    }

    private static void keptByARevision() {
        Checks.test("A chunk is kept as long as one of them has it: a revision");
        Run in = OUT.then("resize(0, 0, 8)", "checkIn(0, 0)");
        in.answers(1, "count(2)");
        in.then("out(0, 0)", "resize(0, 0, 0)").answers(1, "count(2)");
        in.then("out(0, 0)", "resize(0, 0, 0)", "checkIn(0, 0)").answers(1, "count(2)");
        in.then("withdraw(0, 1, 0)").answers(1, "count(2)");
        in.then("out(0, 0)", "put(0, 0, 0, 1)").answers(2, "count(2)");
        in.then("out(0, 0)", "put(0, 0, 0, 1)", "undo(0, 0)").answers(1, "count(2)");
    }

    private static void keptByACopy() {
        Checks.test("A chunk is kept as long as one of them has it: a working copy");
        Run one = OUT.then("out(1, 0)", "resize(0, 0, 8)", "resize(1, 0, 8)");
        one.answers(1, "count(2)");
        one.then("undo(0, 0)").answers(1, "count(2)");
        one.then("undo(0, 0)", "undo(1, 0)").answers(0, "count(2)");
        one.then("resize(0, 0, 0)").answers(1, "count(2)");
        one.then("resize(0, 0, 0)", "resize(1, 0, 0)").answers(0, "count(2)");
        one.then("put(0, 0, 0, 1)").answers(2, "count(2)");
        one.then("put(0, 0, 0, 1)", "put(1, 0, 0, 1)").answers(1, "count(2)");
    }

    private static void keptAsWritten() {
        Checks.test("the chunks of a copy as it was written are back once started");
        Run run = OUT.then("resize(0, 0, 8)", "person(2, 1)", "put(0, 0, 0, 1)", "resize(0, 0, 16)");
        run.answers(2, "count(2)");
        run.then("start()").answers(1, "count(2)");
        OUT.then("resize(0, 0, 8)", "start()").answers(0, "count(2)");
    }

    private static void manyChunks() {
        Checks.test("many chunks");
        Run many = Vaults.chunked(Vaults.drawings(14), 35);
        many.answers(280, "count(2)");
        many.answers(8, "look(13, 2, 4)");
        Run more = many.then("out(13, 0)", "resize(13, 0, 63)");
        more.answers(281, "count(2)");
        more.then("resize(13, 0, 64)").answers(280, "count(2)");
    }
}
