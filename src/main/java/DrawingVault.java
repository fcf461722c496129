import java.util.Arrays;

/**
 * A vault of drawings: who has which one out, what each revision has and refers to, which state it
 * is in, baselines, where a drawing is used; written in pages, so that a power failure leaves what
 * whole commands wrote.
 *
 * <p>Only the bytes and references of working copies can be ahead of what was written, so the one
 * thing kept twice is the working copy of each drawing.
 */
public final class DrawingVault {
    public static final int NONE = -1;

    private static final int PERSONS = 16;
    private static final int DRAWINGS = 24;
    private static final int REVISIONS = 100;
    private static final int REVISIONS_OF_ONE = 12;
    private static final int REFERENCES = 6;
    private static final int BASELINES = 10;
    private static final int BYTES = 64;
    private static final int PIECE = 8;
    private static final int PIECES = BYTES / PIECE;
    private static final int CHUNKS = (REVISIONS + DRAWINGS) * PIECES;
    private static final int GREATEST_BYTE = 255;
    private static final int BITS_OF_A_BYTE = 8;
    private static final int PAGES = 400;
    private static final int PAGES_TO_SPARE = 40;
    private static final int DRAWINGS_A_PAGE = 8;

    private static final int TO_MAKE = 1;
    private static final int TO_CHECK = 2;
    private static final int TO_RELEASE = 4;
    private static final int ALL_RIGHTS = 7;

    private static final int IN_WORK = 0;
    private static final int CHECKED = 1;
    private static final int RELEASED = 2;
    private static final int WITHDRAWN = 3;

    private static final int NOT_REFUSED = 0;
    private static final int RIGHT = 1;
    private static final int STATE = 2;
    private static final int SAME = 3;
    private static final int UNRELEASED = 4;
    private static final int IN_USE = 5;
    private static final int LOOP = 6;
    private static final int NONE_SUCH = 7;
    private static final int ROOM = 8;

    private static final int FIRST_BYTE = 8;
    private static final int FIRST_REFERENCE = 200;

    private final int[] rightsOf;
    private final Drawing[] drawings;
    private int drawingCount;
    private int revisionCount;
    private final Baseline[] baselines;
    private Baseline draft;
    private final ChunkSet chunks;
    private final Pages pages;
    private int reason;

    public DrawingVault() {
        rightsOf = new int[PERSONS];
        drawings = new Drawing[DRAWINGS];
        baselines = new Baseline[BASELINES];
        draft = new Baseline();
        chunks = new ChunkSet();
        pages = new Pages();
    }

    public boolean person(int person, int rights) throws IllegalStateException {
        needPower();
        boolean known = isPerson(person) && rights >= 0 && rights <= ALL_RIGHTS;
        if (!mayWrite(known ? NOT_REFUSED : NONE_SUCH, 1)) {
            return false;
        }
        rightsOf[person] = rights;
        finish(1);
        return true;
    }

    public int drawing(int person) throws IllegalStateException {
        needPower();
        if (!mayWrite(drawingRefusal(person), 2)) {
            return NONE;
        }
        Drawing made = new Drawing();
        made.addRevision(person);
        int number = drawingCount;
        drawings[number] = made;
        drawingCount++;
        revisionCount++;
        finish(2);
        return number;
    }

    public boolean out(int drawing, int person) throws IllegalStateException {
        needPower();
        Drawing it = drawingAt(drawing);
        if (!mayWrite(outRefusal(it, person), 1)) {
            return false;
        }
        it.lendTo(person);
        finish(1);
        return true;
    }

    public boolean undo(int drawing, int person) throws IllegalStateException {
        needPower();
        Drawing it = drawingAt(drawing);
        if (!mayWrite(copyRefusal(it, person), 1)) {
            return false;
        }
        it.endLoan();
        finish(1);
        return true;
    }

    public boolean put(int drawing, int person, int at, int value) throws IllegalStateException {
        needPower();
        Drawing it = drawingAt(drawing);
        int refusal = copyRefusal(it, person);
        if (refusal == NOT_REFUSED && !(it.copy.hasByte(at) && value >= 0 && value <= GREATEST_BYTE)) {
            refusal = NONE_SUCH;
        }
        if (!allowed(refusal)) {
            return false;
        }
        it.copy.setByte(at, value);
        return true;
    }

    public boolean resize(int drawing, int person, int bytes) throws IllegalStateException {
        needPower();
        Drawing it = drawingAt(drawing);
        int refusal = copyRefusal(it, person);
        if (refusal == NOT_REFUSED && (bytes < 0 || bytes > BYTES)) {
            refusal = NONE_SUCH;
        }
        if (!allowed(refusal)) {
            return false;
        }
        it.copy.setBytes(bytes);
        return true;
    }

    public boolean ref(int drawing, int person, int k, int target, int revision) throws IllegalStateException {
        needPower();
        Drawing it = drawingAt(drawing);
        int refusal = copyRefusal(it, person);
        if (refusal == NOT_REFUSED) {
            refusal = refRefusal(it.copy, k, target, revision);
        }
        if (!allowed(refusal)) {
            return false;
        }
        it.copy.setReference(k, target, revision);
        return true;
    }

    public boolean drop(int drawing, int person, int k) throws IllegalStateException {
        needPower();
        Drawing it = drawingAt(drawing);
        int refusal = copyRefusal(it, person);
        if (refusal == NOT_REFUSED && !it.copy.hasReference(k)) {
            refusal = NONE_SUCH;
        }
        if (!allowed(refusal)) {
            return false;
        }
        it.copy.removeReference(k);
        return true;
    }

    public int checkIn(int drawing, int person) throws IllegalStateException {
        needPower();
        Drawing it = drawingAt(drawing);
        int refusal = copyRefusal(it, person);
        int cost = 0;
        if (refusal == NOT_REFUSED) {
            refusal = checkInRefusal(drawing, it);
            cost = 2 + chunks.sizeOf(it.copy);
        }
        if (!mayWrite(refusal, cost)) {
            return NONE;
        }
        it.addRevision(person);
        it.endLoan();
        revisionCount++;
        finish(cost);
        return it.newest();
    }

    public boolean check(int drawing, int revision, int person) throws IllegalStateException {
        needPower();
        return becomes(drawing, revision, CHECKED, checkRefusal(drawing, revision, person));
    }

    public boolean release(int drawing, int revision, int person) throws IllegalStateException {
        needPower();
        return becomes(drawing, revision, RELEASED, releaseRefusal(drawing, revision, person));
    }

    public boolean withdraw(int drawing, int revision, int person) throws IllegalStateException {
        needPower();
        return becomes(drawing, revision, WITHDRAWN, withdrawRefusal(drawing, revision, person));
    }

    public int baseline(int n, int drawing) throws IllegalStateException {
        needPower();
        int refusal = baselineRefusal(n, drawing);
        int cost = draft.pagesTaken();
        if (!mayWrite(refusal, cost)) {
            return NONE;
        }
        Baseline made = draft;
        baselines[n] = made;
        draft = new Baseline();
        finish(cost);
        return made.size;
    }

    public int why() {
        return reason;
    }

    public int look(int drawing, int revision, int what) throws IndexOutOfBoundsException {
        Revision it = revisionAt(drawing, revision);
        if (it == null) {
            throw new IndexOutOfBoundsException();
        }
        switch (what) {
            case 0:
                return it.state;
            case 1:
                return it.author;
            case 2:
                return it.content.bytes;
            case 3:
                return it.content.references;
            case 4:
                return chunks.sizeOf(it.content);
            default:
                return byteOf(it.content, what);
        }
    }

    public int reference(int drawing, int revision, int k, int what) throws IndexOutOfBoundsException {
        Revision it = revisionAt(drawing, revision);
        if (it == null || !it.content.hasReference(k)) {
            throw new IndexOutOfBoundsException();
        }
        int target = it.content.targets[k];
        int fixed = it.content.fixed[k];
        switch (what) {
            case 0:
                return target;
            case 1:
                return fixed;
            case 2:
                return resolved(target, fixed);
            default:
                throw new IndexOutOfBoundsException();
        }
    }

    public int about(int drawing, int what) throws IndexOutOfBoundsException {
        Drawing it = drawingAt(drawing);
        if (it == null) {
            throw new IndexOutOfBoundsException();
        }
        switch (what) {
            case 0:
                return it.newest();
            case 1:
                return it.latestReleased();
            case 2:
                return it.holder;
            case 3:
                return it.copy.bytes;
            case 4:
                return it.copy.references;
            default:
                return what >= FIRST_REFERENCE ? referencePart(it.copy, what) : byteOf(it.copy, what);
        }
    }

    public int inBaseline(int n, int k, int what) throws IndexOutOfBoundsException {
        Baseline it = baselineAt(n);
        if (it == null) {
            throw new IndexOutOfBoundsException();
        }
        if (k == NONE && what == 0) {
            return it.size;
        }
        int drawing = it.drawingByNumber(k);
        if (drawing == NONE || what < 0 || what > 1) {
            throw new IndexOutOfBoundsException();
        }
        return what == 0 ? drawing : it.revisionOf[drawing];
    }

    public int user(int drawing, boolean all, int k) {
        if (drawingAt(drawing) == null) {
            return NONE;
        }
        int users = usersOf(drawing, all);
        int before = 0;
        for (int i = 0; i < drawingCount; i++) {
            if ((users & bit(i)) != 0) {
                if (before == k) {
                    return i;
                }
                before++;
            }
        }
        return NONE;
    }

    public int difference(int drawing, int revision, int other, int k) throws IndexOutOfBoundsException {
        Revision one = revisionAt(drawing, revision);
        Revision two = revisionAt(drawing, other);
        if (one == null || two == null) {
            throw new IndexOutOfBoundsException();
        }
        int before = 0;
        for (int place = 0; place < PIECES; place++) {
            if (!one.content.samePiece(two.content, place)) {
                if (before == k) {
                    return place;
                }
                before++;
            }
        }
        return NONE;
    }

    public boolean failAfter(int n) {
        if (n < 0 || pages.failed) {
            return false;
        }
        pages.failAhead(n);
        return true;
    }

    public int start() {
        for (int i = 0; i < drawingCount; i++) {
            drawings[i].copy.takeFrom(drawings[i].written);
        }
        pages.switchOn();
        return drawingsOut();
    }

    public int count(int what) {
        switch (what) {
            case 0:
                return drawingCount;
            case 1:
                return revisionCount;
            case 2:
                return chunksKept();
            case 3:
                return pages.free;
            case 4:
                return pages.commands;
            case 5:
                return pages.copiedForward;
            case 6:
                return baselinesMade();
            case 7:
                return pages.failed ? 1 : 0;
            default:
                return NONE;
        }
    }

    // ---- how a call is refused, fails or is written ----

    private void needPower() {
        if (pages.failed) {
            throw new IllegalStateException();
        }
    }

    private boolean allowed(int refusal) {
        reason = refusal;
        return refusal == NOT_REFUSED;
    }

    /** Room comes behind every other reason, and a refused command cannot make the power fail. */
    private boolean mayWrite(int refusal, int cost) {
        if (refusal == NOT_REFUSED && cost > pages.free) {
            return allowed(ROOM);
        }
        if (refusal == NOT_REFUSED && pages.failsBy(cost)) {
            pages.failed = true;
            throw new IllegalStateException();
        }
        return allowed(refusal);
    }

    private void finish(int cost) {
        pages.write(cost);
        for (int i = 0; i < drawingCount; i++) {
            drawings[i].written.takeFrom(drawings[i].copy);
        }
        if (pages.areLow()) {
            pages.copyForward(pagesOfTheSame());
        }
    }

    /** What is not refused is there: every refusal of these commands looks at the revision. */
    private boolean becomes(int drawing, int revision, int state, int refusal) {
        Revision it = revisionAt(drawing, revision);
        if (!mayWrite(refusal, 1) || it == null) {
            return false;
        }
        it.state = state;
        finish(1);
        return true;
    }

    // ---- the reasons of each command, but for the pages ----

    private int drawingRefusal(int person) {
        if (!hasRight(person, TO_MAKE)) {
            return RIGHT;
        }
        boolean full = drawingCount >= DRAWINGS || revisionCount >= REVISIONS;
        return full ? ROOM : NOT_REFUSED;
    }

    private int outRefusal(Drawing it, int person) {
        if (!hasRight(person, ALL_RIGHTS)) {
            return RIGHT;
        }
        if (it == null) {
            return NONE_SUCH;
        }
        return it.holder == NONE ? NOT_REFUSED : STATE;
    }

    private int copyRefusal(Drawing it, int person) {
        if (!hasRight(person, ALL_RIGHTS)) {
            return RIGHT;
        }
        if (it == null) {
            return NONE_SUCH;
        }
        return it.holder == person ? NOT_REFUSED : STATE;
    }

    private int refRefusal(Content copy, int k, int target, int revision) {
        if (k < 0 || k > copy.references || drawingAt(target) == null || revision < NONE) {
            return NONE_SUCH;
        }
        return k < REFERENCES ? NOT_REFUSED : ROOM;
    }

    private int checkInRefusal(int drawing, Drawing it) {
        int closing = usersOf(drawing, true) | bit(drawing);
        if ((it.copy.targetBits() & closing) != 0) {
            return LOOP;
        }
        if (!fixedOnesAreThere(it.copy)) {
            return NONE_SUCH;
        }
        boolean full = it.revisionCount >= REVISIONS_OF_ONE || revisionCount >= REVISIONS;
        return full ? ROOM : NOT_REFUSED;
    }

    /** A drawing that is out refuses before a revision that there is not: the least reason counts. */
    private int checkRefusal(int drawing, int revision, int person) {
        Drawing of = drawingAt(drawing);
        Revision it = revisionAt(drawing, revision);
        if (!hasRight(person, TO_CHECK)) {
            return RIGHT;
        }
        if (of != null && of.holder != NONE) {
            return STATE;
        }
        if (of == null || it == null) {
            return NONE_SUCH;
        }
        if (it.state != IN_WORK || revision != of.newest()) {
            return STATE;
        }
        return it.author == person ? SAME : NOT_REFUSED;
    }

    private int releaseRefusal(int drawing, int revision, int person) {
        Revision it = revisionAt(drawing, revision);
        if (!hasRight(person, TO_RELEASE)) {
            return RIGHT;
        }
        if (it == null) {
            return NONE_SUCH;
        }
        if (it.state != CHECKED) {
            return STATE;
        }
        return allResolveToReleased(it.content) ? NOT_REFUSED : UNRELEASED;
    }

    private int withdrawRefusal(int drawing, int revision, int person) {
        Revision it = revisionAt(drawing, revision);
        if (!hasRight(person, TO_RELEASE)) {
            return RIGHT;
        }
        if (it == null) {
            return NONE_SUCH;
        }
        if (it.state == WITHDRAWN) {
            return STATE;
        }
        boolean used = isInABaseline(drawing, revision) || isFixedByAReleasedOne(drawing, revision);
        return used ? IN_USE : NOT_REFUSED;
    }

    /** No such baseline number comes last: what the drawing is refused for is a lesser reason. */
    private int baselineRefusal(int n, int drawing) {
        Drawing it = drawingAt(drawing);
        draft.clear();
        if (baselineAt(n) != null) {
            return STATE;
        }
        if (it == null) {
            return NONE_SUCH;
        }
        int refusal = fillDraft(drawing, it.latestReleased());
        if (refusal != NOT_REFUSED) {
            return refusal;
        }
        return n >= 0 && n < BASELINES ? NOT_REFUSED : NONE_SUCH;
    }

    // ---- what a baseline is made of ----

    private int fillDraft(int drawing, int revision) {
        if (revision == NONE) {
            return STATE;
        }
        draft.takes(drawing, revision);
        int refusal = NOT_REFUSED;
        for (int i = 0; i < draft.size && i < DRAWINGS; i++) {
            int from = draft.order[i];
            int found = follow(revisionAt(from, draft.revisionOf[from]));
            if (found == STATE) {
                return STATE;
            }
            refusal = Math.max(refusal, found);
        }
        return refusal;
    }

    /** An unreleased one does not end it: a second revision of a drawing is the lesser reason. */
    private int follow(Revision from) {
        if (from == null) {
            return NOT_REFUSED;
        }
        int refusal = NOT_REFUSED;
        for (int k = 0; k < from.content.references; k++) {
            int target = from.content.targets[k];
            int revision = resolved(target, from.content.fixed[k]);
            if (!isReleased(target, revision)) {
                refusal = UNRELEASED;
            } else if (!draft.takes(target, revision)) {
                return STATE;
            }
        }
        return refusal;
    }

    // ---- persons, drawings, revisions, references ----

    private static int bit(int drawing) {
        return 1 << drawing;
    }

    private static boolean isPerson(int person) {
        return person >= 0 && person < PERSONS;
    }

    private boolean hasRight(int person, int oneOf) {
        return isPerson(person) && (rightsOf[person] & oneOf) != 0;
    }

    private Drawing drawingAt(int drawing) {
        return drawing >= 0 && drawing < drawingCount ? drawings[drawing] : null;
    }

    private Revision revisionAt(int drawing, int revision) {
        Drawing it = drawingAt(drawing);
        return it != null && it.hasRevision(revision) ? it.revisions[revision] : null;
    }

    private Baseline baselineAt(int n) {
        return n >= 0 && n < BASELINES ? baselines[n] : null;
    }

    private boolean isReleased(int drawing, int revision) {
        Revision it = revisionAt(drawing, revision);
        return it != null && it.state == RELEASED;
    }

    private int resolved(int target, int fixed) {
        Drawing it = drawingAt(target);
        if (it == null) {
            return NONE;
        }
        return it.hasRevision(fixed) ? fixed : it.latestReleased();
    }

    private boolean allResolveToReleased(Content content) {
        for (int k = 0; k < content.references; k++) {
            int target = content.targets[k];
            if (!isReleased(target, resolved(target, content.fixed[k]))) {
                return false;
            }
        }
        return true;
    }

    private boolean fixedOnesAreThere(Content content) {
        for (int k = 0; k < content.references; k++) {
            int fixed = content.fixed[k];
            if (fixed != NONE && revisionAt(content.targets[k], fixed) == null) {
                return false;
            }
        }
        return true;
    }

    private boolean isInABaseline(int drawing, int revision) {
        for (int n = 0; n < BASELINES; n++) {
            if (baselines[n] != null && baselines[n].revisionOf[drawing] == revision) {
                return true;
            }
        }
        return false;
    }

    private boolean isFixedByAReleasedOne(int drawing, int revision) {
        for (int i = 0; i < drawingCount; i++) {
            for (int r = 0; r < drawings[i].revisionCount; r++) {
                Revision from = drawings[i].revisions[r];
                if (from.state == RELEASED && from.content.names(drawing, revision)) {
                    return true;
                }
            }
        }
        return false;
    }

    private int usersOf(int drawing, boolean all) {
        int used = bit(drawing);
        int users = 0;
        for (int round = 0; round < DRAWINGS; round++) {
            int found = usersOfAny(used);
            if (!all || found == users) {
                return found;
            }
            users = found;
            used |= found;
        }
        return users;
    }

    private int usersOfAny(int used) {
        int users = 0;
        for (int i = 0; i < drawingCount; i++) {
            if ((drawings[i].targetBits() & used) != 0) {
                users |= bit(i);
            }
        }
        return users;
    }

    // ---- what a question asks of a content ----

    private static int byteOf(Content content, int what) {
        int at = what - FIRST_BYTE;
        if (what < FIRST_BYTE || !content.hasByte(at)) {
            throw new IndexOutOfBoundsException();
        }
        return content.byteAt(at);
    }

    private static int referencePart(Content content, int what) {
        int part = what - FIRST_REFERENCE;
        int k = part / 2;
        if (part < 0 || !content.hasReference(k)) {
            throw new IndexOutOfBoundsException();
        }
        return part % 2 == 0 ? content.targets[k] : content.fixed[k];
    }

    // ---- what is counted ----

    private int drawingsOut() {
        int out = 0;
        for (int i = 0; i < drawingCount; i++) {
            if (drawings[i].holder != NONE) {
                out++;
            }
        }
        return out;
    }

    private int baselinesMade() {
        int made = 0;
        for (int n = 0; n < BASELINES; n++) {
            if (baselines[n] != null) {
                made++;
            }
        }
        return made;
    }

    private int chunksOfRevisions() {
        chunks.clear();
        for (int i = 0; i < drawingCount; i++) {
            for (int r = 0; r < drawings[i].revisionCount; r++) {
                chunks.addAll(drawings[i].revisions[r].content);
            }
        }
        return chunks.size;
    }

    private int chunksKept() {
        chunksOfRevisions();
        for (int i = 0; i < drawingCount; i++) {
            chunks.addAll(drawings[i].copy);
        }
        return chunks.size;
    }

    private int pagesOfTheSame() {
        int taken = 2 * drawingCount + revisionCount + drawingsOut() + chunksOfRevisions();
        for (int person = 0; person < PERSONS; person++) {
            taken += rightsOf[person] != 0 ? 1 : 0;
        }
        for (int n = 0; n < BASELINES; n++) {
            taken += baselines[n] != null ? baselines[n].pagesTaken() : 0;
        }
        return taken;
    }

    /**
     * Bytes and references. A piece of 8 bytes is one long, and bytes behind the end are kept 0, so
     * that two pieces are equal if they are as long and their longs are equal.
     */
    private static final class Content {
        final long[] pieces = new long[PIECES];
        int bytes;
        final int[] targets = new int[REFERENCES];
        final int[] fixed = new int[REFERENCES];
        int references;

        void takeFrom(Content other) {
            System.arraycopy(other.pieces, 0, pieces, 0, PIECES);
            System.arraycopy(other.targets, 0, targets, 0, REFERENCES);
            System.arraycopy(other.fixed, 0, fixed, 0, REFERENCES);
            bytes = other.bytes;
            references = other.references;
        }

        void clear() {
            Arrays.fill(pieces, 0L);
            bytes = 0;
            references = 0;
        }

        boolean hasByte(int at) {
            return at >= 0 && at < bytes;
        }

        int byteAt(int at) {
            return (int) (pieces[at / PIECE] >>> shiftOf(at)) & GREATEST_BYTE;
        }

        void setByte(int at, int value) {
            long others = pieces[at / PIECE] & ~((long) GREATEST_BYTE << shiftOf(at));
            pieces[at / PIECE] = others | (long) value << shiftOf(at);
        }

        void setBytes(int wanted) {
            for (int at = wanted; at < bytes; at++) {
                setByte(at, 0);
            }
            bytes = wanted;
        }

        int pieceCount() {
            return (bytes + PIECE - 1) / PIECE;
        }

        int pieceLength(int place) {
            return Math.max(0, Math.min(PIECE, bytes - place * PIECE));
        }

        /** Places behind both ends are the same: their length is 0 in both. */
        boolean samePiece(Content other, int place) {
            return pieceLength(place) == other.pieceLength(place) && pieces[place] == other.pieces[place];
        }

        boolean hasReference(int k) {
            return k >= 0 && k < references;
        }

        void setReference(int k, int target, int revision) {
            targets[k] = target;
            fixed[k] = revision;
            references = Math.max(references, k + 1);
        }

        void removeReference(int k) {
            references--;
            for (int i = k; i < references; i++) {
                targets[i] = targets[i + 1];
                fixed[i] = fixed[i + 1];
            }
        }

        boolean names(int target, int revision) {
            for (int k = 0; k < references; k++) {
                if (targets[k] == target && fixed[k] == revision) {
                    return true;
                }
            }
            return false;
        }

        int targetBits() {
            int bits = 0;
            for (int k = 0; k < references; k++) {
                bits |= bit(targets[k]);
            }
            return bits;
        }

        private static int shiftOf(int at) {
            return at % PIECE * BITS_OF_A_BYTE;
        }
    }

    private static final class Revision {
        final Content content = new Content();
        final int author;
        int state = IN_WORK;

        Revision(int author) {
            this.author = author;
        }
    }

    /** The copy is empty while nothing is out, so that questions need not tell the two apart. */
    private static final class Drawing {
        final Revision[] revisions = new Revision[REVISIONS_OF_ONE];
        int revisionCount;
        int holder = NONE;
        final Content copy = new Content();
        final Content written = new Content();

        boolean hasRevision(int revision) {
            return revision >= 0 && revision < revisionCount;
        }

        int newest() {
            return revisionCount - 1;
        }

        int latestReleased() {
            for (int r = newest(); r >= 0; r--) {
                if (revisions[r].state == RELEASED) {
                    return r;
                }
            }
            return NONE;
        }

        int targetBits() {
            return hasRevision(newest()) ? revisions[newest()].content.targetBits() : 0;
        }

        void addRevision(int author) {
            Revision made = new Revision(author);
            made.content.takeFrom(copy);
            revisions[revisionCount] = made;
            revisionCount++;
        }

        void lendTo(int person) {
            holder = person;
            copy.takeFrom(revisions[newest()].content);
        }

        void endLoan() {
            holder = NONE;
            copy.clear();
        }
    }

    /** One revision of each drawing in it; the order is that in which they were reached. */
    private static final class Baseline {
        final int[] revisionOf = new int[DRAWINGS];
        final int[] order = new int[DRAWINGS];
        int size;

        Baseline() {
            Arrays.fill(revisionOf, NONE);
        }

        void clear() {
            Arrays.fill(revisionOf, NONE);
            size = 0;
        }

        /** False if another revision of that drawing is in it. */
        boolean takes(int drawing, int revision) {
            if (revisionOf[drawing] == NONE) {
                revisionOf[drawing] = revision;
                order[size] = drawing;
                size++;
            }
            return revisionOf[drawing] == revision;
        }

        int drawingByNumber(int k) {
            int before = 0;
            for (int drawing = 0; drawing < DRAWINGS; drawing++) {
                if (revisionOf[drawing] != NONE) {
                    if (before == k) {
                        return drawing;
                    }
                    before++;
                }
            }
            return NONE;
        }

        int pagesTaken() {
            return 1 + (size + DRAWINGS_A_PAGE - 1) / DRAWINGS_A_PAGE;
        }
    }

    /** Pieces, each of the equal ones once; filled anew for each question. */
    private static final class ChunkSet {
        final long[] pieces = new long[CHUNKS];
        final byte[] lengths = new byte[CHUNKS];
        int size;

        void clear() {
            size = 0;
        }

        int sizeOf(Content content) {
            clear();
            addAll(content);
            return size;
        }

        void addAll(Content content) {
            int places = content.pieceCount();
            for (int place = 0; place < places; place++) {
                addOne(content.pieces[place], content.pieceLength(place));
            }
        }

        private void addOne(long piece, int length) {
            for (int i = 0; i < size; i++) {
                if (pieces[i] == piece && lengths[i] == length) {
                    return;
                }
            }
            if (size < CHUNKS) {
                pieces[size] = piece;
                lengths[size] = (byte) length;
                size++;
            }
        }
    }

    /** How many pages are free, and how many may still be written before the power fails. */
    private static final class Pages {
        int free = PAGES;
        int commands;
        int copiedForward;
        boolean failed;
        private boolean failureAhead;
        private int beforeFailure;

        void failAhead(int n) {
            failureAhead = true;
            beforeFailure = n;
        }

        void switchOn() {
            failed = false;
            failureAhead = false;
        }

        boolean failsBy(int cost) {
            return failureAhead && cost > beforeFailure;
        }

        void write(int cost) {
            free -= cost;
            commands++;
            if (failureAhead) {
                beforeFailure -= cost;
            }
        }

        boolean areLow() {
            return free < PAGES_TO_SPARE;
        }

        void copyForward(int needed) {
            if (PAGES - needed >= PAGES_TO_SPARE) {
                free = PAGES - needed;
                copiedForward++;
            }
        }
    }
}
