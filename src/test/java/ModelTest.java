import java.util.ArrayDeque;
import java.util.ArrayList;
import java.util.Arrays;
import java.util.Deque;
import java.util.List;
import java.util.Random;

/** Many seeded runs of 512 calls, each answer compared with that of VaultModel. */
public final class ModelTest {
    private static final int RUNS = 1600;
    private static final int CALLS = 512;
    private static final int STATE = -1001;
    private static final int INDEX = -1002;
    private static final int THREW = 9;

    /** The calls that why() tells of, by the numbers of onVault(), and each one's reasons. */
    private static final int[][] REASONS = {
        {0, 7, 8, THREW}, {0, 1, 8, THREW}, {0, 1, 2, 7, 8, THREW}, {0, 1, 2, 7, 8, THREW}, {0, 1, 2, 7, THREW},
        {0, 1, 2, 7, THREW}, {0, 1, 2, 7, 8, THREW}, {0, 1, 2, 7, THREW}, {0, 1, 2, 6, 7, 8, THREW},
        {0, 1, 2, 3, 7, 8, THREW}, {0, 1, 2, 4, 7, 8, THREW}, {0, 1, 2, 5, 7, 8, THREW}, {0, 2, 4, 7, 8, THREW},
    };
    private static final int[][] SEEN = new int[13][10];
    private static int copies;
    private static int largestBaseline;
    private static int mostRevisions;

    private final Random random;
    private final DrawingVault vault = new DrawingVault();
    private final VaultModel model = new VaultModel();
    private final List<String> told = new ArrayList<>();
    private final Deque<int[]> ahead = new ArrayDeque<>();
    private final int manyDrawings;
    private final int wildness;
    private final int failures;
    private final int newPieces;

    private ModelTest(int seed) {
        random = new Random(seed);
        manyDrawings = new int[] {2, 4, 6, 12, 24}[seed % 5];
        wildness = seed % 3 == 0 ? 15 : 80;
        failures = seed % 4 == 0 ? 40 : 400;
        newPieces = new int[] {0, 2, 7}[seed % 7 % 3];
        for (int i = 0; i < 4; i++) {
            ahead.add(new int[] {0, i, i < 2 ? 7 : 3 + random.nextInt(5)});
        }
        switch (seed % 8) {
            case 3:
                beginCrowded();
                break;
            case 1:
                beginWithManyRevisions();
                break;
            case 2:
                beginWithATree();
                break;
            default:
        }
    }

    private void addDrawings() {
        for (int i = 0; i < 24; i++) {
            ahead.add(new int[] {1, 0});
        }
    }

    /** So many different pieces that copying forward frees too little. */
    private void beginCrowded() {
        addDrawings();
        for (int i = 4; i < 16; i++) {
            ahead.add(new int[] {0, i, 1 + i % 7});
        }
        for (int i = 0; i < 31; i++) {
            int d = i % 24;
            ahead.add(new int[] {2, d, 0});
            ahead.add(new int[] {5, d, 0, 64});
            for (int piece = 0; piece < 8; piece++) {
                ahead.add(new int[] {4, d, 0, 8 * piece + random.nextInt(8), 1 + random.nextInt(255)});
            }
            ahead.add(new int[] {8, d, 0});
        }
        for (int i = 0; i < 16; i++) {
            ahead.add(new int[] {0, 4, 1 + i % 7});
        }
    }

    private void beginWithManyRevisions() {
        addDrawings();
        for (int i = 0; i < 74; i++) {
            ahead.add(new int[] {2, i / 11, 0});
            ahead.add(new int[] {8, i / 11, 0});
        }
    }

    private void beginWithATree() {
        addDrawings();
        for (int d = 0; d < 24; d++) {
            ahead.add(new int[] {2, d, 0});
            for (int k = 0; k < 2 && d > 0; k++) {
                ahead.add(new int[] {6, d, 0, k, random.nextInt(d), random.nextInt(3) == 0 ? 1 : -1});
            }
            ahead.add(new int[] {8, d, 0});
            ahead.add(new int[] {9, d, 1, 1});
            ahead.add(new int[] {10, d, 1, 1});
        }
        for (int n = 0; n < 5; n++) {
            ahead.add(new int[] {12, n, 23 - n});
        }
    }

    public static void main(String[] args) {
        int wrong = 0;
        for (int seed = 0; seed < RUNS && wrong < 3; seed++) {
            ModelTest run = new ModelTest(seed);
            if (!run.agrees()) {
                wrong++;
                System.out.println("seed " + seed + ": the last call differs (vault, model)");
                for (String line : run.told) {
                    System.out.println("  " + line);
                }
            }
        }
        wrong += wrong == 0 ? neverSeen() : 0;
        System.out.println(wrong == 0 ? "all answers are as due" : "there are wrong answers");
        if (wrong != 0) {
            System.exit(1);
        }
    }

    /** Runs that never came to a reason would show nothing of it. */
    private static int neverSeen() {
        int missing = 0;
        for (int call = 0; call < REASONS.length; call++) {
            for (int reason : REASONS[call]) {
                if (SEEN[call][reason] == 0) {
                    missing++;
                    System.out.println("no run had call " + call + " with reason " + reason);
                }
            }
        }
        if (copies == 0 || largestBaseline < 9 || mostRevisions < 100) {
            missing++;
            System.out.println(copies + " copied forward, baseline of " + largestBaseline + ", revisions " + mostRevisions);
        }
        return missing;
    }

    private boolean agrees() {
        for (int i = 0; i < CALLS; i++) {
            int[] call = next();
            int got = onVault(call);
            int want = onModel(call);
            told.add(Arrays.toString(call) + " " + got + ", " + want);
            if (got != want) {
                return false;
            }
            if (call[0] < SEEN.length) {
                SEEN[call[0]][got == STATE ? THREW : model.why]++;
                askBehind();
            }
            if (call[0] == 12) {
                largestBaseline = Math.max(largestBaseline, got);
            }
        }
        copies += model.count(5);
        mostRevisions = Math.max(mostRevisions, model.count(1));
        return true;
    }

    /** Seldom while a run is still being built up: questions are calls, and there are 512 only. */
    private void askBehind() {
        int one = ahead.size() > 20 ? 60 : 6;
        if (seldom(one)) {
            ahead.addFirst(new int[] {22, wild(random.nextInt(8))});
        }
        if (seldom(model.why == 0 ? one : 2)) {
            ahead.addFirst(new int[] {13});
        }
    }

    private boolean seldom(int one) {
        return random.nextInt(one) == 0;
    }

    private int wild(int usual) {
        if (!seldom(wildness)) {
            return usual;
        }
        int[] odd = {-1, -2, Integer.MIN_VALUE, Integer.MAX_VALUE, 24, 16, 12, 100, 64, 256, 10, 6, 7, 65, 11, 8};
        return odd[random.nextInt(odd.length)];
    }

    private int someDrawing() {
        return wild(random.nextInt(Math.max(1, model.count(0))));
    }

    private int somePerson() {
        return wild(random.nextInt(4));
    }

    private boolean isDrawing(int d) {
        return d >= 0 && d < model.count(0);
    }

    private int holder(int d) {
        int holder = isDrawing(d) ? model.about(d, 2) : -1;
        return holder == -1 || seldom(20) ? somePerson() : holder;
    }

    private int drawingOut() {
        int d = someDrawing();
        for (int tries = 0; tries < 20 && isDrawing(d) && model.about(d, 2) == -1; tries++) {
            d = someDrawing();
        }
        return d;
    }

    private int someRevision(int d) {
        if (!isDrawing(d)) {
            return wild(0);
        }
        int newest = model.about(d, 0);
        return wild(seldom(3) ? random.nextInt(newest + 1) : newest);
    }

    private int[] next() {
        if (model.count(7) == 1 && seldom(4)) {
            return new int[] {21};
        }
        if (seldom(failures)) {
            return new int[] {20, wild(random.nextInt(12))};
        }
        if (seldom(failures)) {
            return new int[] {21};
        }
        if (model.count(0) < manyDrawings && ahead.size() < 20 && seldom(4) || seldom(100)) {
            return new int[] {1, somePerson()};
        }
        if (ahead.isEmpty()) {
            plan();
        }
        return ahead.poll();
    }

    /** Single calls that hit anything, and short rows of calls that together come to something. */
    private void plan() {
        switch (random.nextInt(10)) {
            case 0: case 1: case 2:
                planRevision(someDrawing());
                break;
            case 3: case 4:
                planRelease(someDrawing());
                break;
            case 5:
                ahead.add(someQuestion(someDrawing()));
                break;
            default:
                ahead.add(someCall());
        }
    }

    private void planRevision(int d) {
        int p = random.nextInt(2);
        ahead.add(new int[] {2, d, p});
        if (isDrawing(d) && model.look(d, model.about(d, 0), 2) < 60) {
            ahead.add(new int[] {5, d, p, newPieces == 0 ? random.nextInt(30) : 64});
        }
        for (int i = 0; i < newPieces; i++) {
            ahead.add(new int[] {4, d, p, 8 * i + random.nextInt(8), random.nextInt(256)});
        }
        for (int k = random.nextInt(4); k > 0; k--) {
            ahead.add(someRef(d, p));
        }
        ahead.add(new int[] {8, d, p});
        if (seldom(2)) {
            planRelease(d);
        }
    }

    private void planRelease(int d) {
        int newest = isDrawing(d) ? model.about(d, 0) : 0;
        int author = isDrawing(d) ? model.look(d, newest, 1) : 0;
        int next = newest + (ahead.isEmpty() ? 0 : 1);
        ahead.add(new int[] {9, d, next, author == 0 ? 1 : 0});
        ahead.add(new int[] {9, d, next, random.nextInt(4)});
        ahead.add(new int[] {10, d, next, random.nextInt(2)});
        if (seldom(6)) {
            ahead.add(new int[] {12, wild(random.nextInt(10)), d});
        }
    }

    private int[] someCall() {
        int any = someDrawing();
        int d = drawingOut();
        switch (random.nextInt(14)) {
            case 0:
                return new int[] {0, wild(seldom(4) ? random.nextInt(4) : 4 + random.nextInt(12)), wild(random.nextInt(8))};
            case 1:
                return new int[] {2, any, somePerson()};
            case 2:
                return new int[] {3, d, holder(d)};
            case 3: case 4:
                return new int[] {4, d, holder(d), wild(random.nextInt(64)), wild(random.nextInt(256))};
            case 5:
                return new int[] {5, d, holder(d), wild(random.nextInt(65))};
            case 6: case 7:
                return someRef(d, holder(d));
            case 8:
                return new int[] {7, d, holder(d), wild(random.nextInt(3))};
            case 9:
                return new int[] {8, d, holder(d)};
            case 10:
                return new int[] {9, any, someRevision(any), somePerson()};
            case 11:
                return new int[] {10, any, someRevision(any), somePerson()};
            case 12:
                return new int[] {11, any, someRevision(any), somePerson()};
            default:
                return new int[] {12, wild(random.nextInt(10)), any};
        }
    }

    private int[] someRef(int d, int p) {
        int has = isDrawing(d) ? Math.max(model.about(d, 4), model.look(d, model.about(d, 0), 3)) : 0;
        int k = wild(seldom(3) ? random.nextInt(7) : has);
        int target = seldom(6) || d < 1 ? someDrawing() : wild(random.nextInt(Math.max(1, Math.min(d, 24))));
        int revision = seldom(2) ? -1 : seldom(20) ? random.nextInt(5) : someRevision(target);
        return new int[] {6, d, p, k, target, revision};
    }

    private int[] someQuestion(int d) {
        int r = someRevision(d);
        switch (random.nextInt(6)) {
            case 0:
                return new int[] {14, d, r, wild(random.nextInt(75))};
            case 1:
                return new int[] {15, d, r, wild(random.nextInt(4)), wild(random.nextInt(4))};
            case 2:
                int out = drawingOut();
                return new int[] {16, out, wild(seldom(2) ? random.nextInt(75) : 198 + random.nextInt(16))};
            case 3:
                return new int[] {17, wild(random.nextInt(10)), wild(random.nextInt(5) - 1), wild(random.nextInt(3))};
            case 4:
                return new int[] {18, d, random.nextInt(2), wild(random.nextInt(4))};
            default:
                return new int[] {19, d, r, someRevision(d), wild(random.nextInt(5))};
        }
    }

    private static int of(boolean answer) {
        return answer ? 1 : 0;
    }

    private static int thrown(RuntimeException e) {
        return e.getClass() == IllegalStateException.class ? STATE
            : e.getClass() == IndexOutOfBoundsException.class ? INDEX : -1003;
    }

    private int onVault(int[] a) {
        try {
            switch (a[0]) {
                case 0: return of(vault.person(a[1], a[2]));
                case 1: return vault.drawing(a[1]);
                case 2: return of(vault.out(a[1], a[2]));
                case 3: return of(vault.undo(a[1], a[2]));
                case 4: return of(vault.put(a[1], a[2], a[3], a[4]));
                case 5: return of(vault.resize(a[1], a[2], a[3]));
                case 6: return of(vault.ref(a[1], a[2], a[3], a[4], a[5]));
                case 7: return of(vault.drop(a[1], a[2], a[3]));
                case 8: return vault.checkIn(a[1], a[2]);
                case 9: return of(vault.check(a[1], a[2], a[3]));
                case 10: return of(vault.release(a[1], a[2], a[3]));
                case 11: return of(vault.withdraw(a[1], a[2], a[3]));
                case 12: return vault.baseline(a[1], a[2]);
                case 13: return vault.why();
                case 14: return vault.look(a[1], a[2], a[3]);
                case 15: return vault.reference(a[1], a[2], a[3], a[4]);
                case 16: return vault.about(a[1], a[2]);
                case 17: return vault.inBaseline(a[1], a[2], a[3]);
                case 18: return vault.user(a[1], a[2] == 1, a[3]);
                case 19: return vault.difference(a[1], a[2], a[3], a[4]);
                case 20: return of(vault.failAfter(a[1]));
                case 21: return vault.start();
                default: return vault.count(a[1]);
            }
        } catch (RuntimeException e) {
            return thrown(e);
        }
    }

    private int onModel(int[] a) {
        try {
            switch (a[0]) {
                case 0: return of(model.person(a[1], a[2]));
                case 1: return model.drawing(a[1]);
                case 2: return of(model.out(a[1], a[2]));
                case 3: return of(model.undo(a[1], a[2]));
                case 4: return of(model.put(a[1], a[2], a[3], a[4]));
                case 5: return of(model.resize(a[1], a[2], a[3]));
                case 6: return of(model.ref(a[1], a[2], a[3], a[4], a[5]));
                case 7: return of(model.drop(a[1], a[2], a[3]));
                case 8: return model.checkIn(a[1], a[2]);
                case 9: return of(model.check(a[1], a[2], a[3]));
                case 10: return of(model.release(a[1], a[2], a[3]));
                case 11: return of(model.withdraw(a[1], a[2], a[3]));
                case 12: return model.baseline(a[1], a[2]);
                case 13: return model.why;
                case 14: return model.look(a[1], a[2], a[3]);
                case 15: return model.reference(a[1], a[2], a[3], a[4]);
                case 16: return model.about(a[1], a[2]);
                case 17: return model.inBaseline(a[1], a[2], a[3]);
                case 18: return model.user(a[1], a[2] == 1, a[3]);
                case 19: return model.difference(a[1], a[2], a[3], a[4]);
                case 20: return of(model.failAfter(a[1]));
                case 21: return model.start();
                default: return model.count(a[1]);
            }
        } catch (RuntimeException e) {
            return thrown(e);
        }
    }
}
