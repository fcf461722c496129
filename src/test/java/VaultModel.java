import java.util.ArrayList;
import java.util.Arrays;
import java.util.HashSet;
import java.util.List;
import java.util.Set;
import java.util.TreeMap;
import java.util.TreeSet;

/**
 * The document written down a second time, as plainly as the Java library lets it: every reason that
 * is so is collected and the least is taken, and all of the vault is copied behind each command.
 */
final class VaultModel {
    static final class Body {
        List<Integer> bytes = new ArrayList<>();
        List<int[]> refs = new ArrayList<>();

        Body copy() {
            Body b = new Body();
            b.bytes.addAll(bytes);
            for (int[] r : refs) {
                b.refs.add(r.clone());
            }
            return b;
        }

        List<List<Integer>> pieces() {
            List<List<Integer>> all = new ArrayList<>();
            for (int i = 0; i < bytes.size(); i += 8) {
                all.add(new ArrayList<>(bytes.subList(i, Math.min(bytes.size(), i + 8))));
            }
            return all;
        }
    }

    static final class Rev {
        Body body;
        int author;
        int state;
    }

    static final class Draw {
        List<Rev> revs = new ArrayList<>();
        int holder = -1;
        Body work;
    }

    static final class All {
        int[] rights = new int[16];
        List<Draw> draws = new ArrayList<>();
        TreeMap<Integer, TreeMap<Integer, Integer>> baselines = new TreeMap<>();
        int used;
        int commands;
        int copied;

        All copy() {
            All a = new All();
            a.rights = rights.clone();
            for (Draw d : draws) {
                Draw e = new Draw();
                for (Rev r : d.revs) {
                    Rev s = new Rev();
                    s.body = r.body.copy();
                    s.author = r.author;
                    s.state = r.state;
                    e.revs.add(s);
                }
                e.holder = d.holder;
                e.work = d.work == null ? null : d.work.copy();
                a.draws.add(e);
            }
            for (int n : baselines.keySet()) {
                a.baselines.put(n, new TreeMap<>(baselines.get(n)));
            }
            a.used = used;
            a.commands = commands;
            a.copied = copied;
            return a;
        }
    }

    All now = new All();
    All written = new All();
    boolean failed;
    long budget = Long.MAX_VALUE;
    int why;

    private void power() {
        if (failed) {
            throw new IllegalStateException();
        }
    }

    private boolean refused(TreeSet<Integer> reasons) {
        why = reasons.isEmpty() ? 0 : reasons.first();
        return why != 0;
    }

    /** Refused by a reason or by the pages; throws if the power fails by it. */
    private boolean refusedCommand(TreeSet<Integer> reasons, int pages) {
        if (400 - now.used < pages) {
            reasons.add(8);
        }
        if (reasons.isEmpty() && pages > budget) {
            failed = true;
            throw new IllegalStateException();
        }
        return refused(reasons);
    }

    private void done(int pages) {
        now.used += pages;
        now.commands++;
        if (budget != Long.MAX_VALUE) {
            budget -= pages;
        }
        if (400 - now.used < 40) {
            int same = same();
            if (400 - same >= 40) {
                now.used = same;
                now.copied++;
            }
        }
        written = now.copy();
    }

    private int same() {
        int sum = 0;
        for (int r : now.rights) {
            if (r != 0) {
                sum += 1;
            }
        }
        Set<List<Integer>> chunks = new HashSet<>();
        for (Draw d : now.draws) {
            sum += 2 + d.revs.size() + (d.holder == -1 ? 0 : 1);
            for (Rev r : d.revs) {
                chunks.addAll(r.body.pieces());
            }
        }
        sum += chunks.size();
        for (TreeMap<Integer, Integer> b : now.baselines.values()) {
            sum += 1 + (int) Math.ceil(b.size() / 8.0);
        }
        return sum;
    }

    private boolean isDraw(int d) {
        return d >= 0 && d < now.draws.size();
    }

    private boolean isRev(int d, int r) {
        return isDraw(d) && r >= 0 && r < now.draws.get(d).revs.size();
    }

    private boolean can(int p, int mask) {
        return p >= 0 && p < 16 && (now.rights[p] & mask) != 0;
    }

    private int revisions() {
        int n = 0;
        for (Draw d : now.draws) {
            n += d.revs.size();
        }
        return n;
    }

    private int latest(int d) {
        int best = -1;
        List<Rev> revs = now.draws.get(d).revs;
        for (int r = 0; r < revs.size(); r++) {
            if (revs.get(r).state == 2) {
                best = r;
            }
        }
        return best;
    }

    private int resolve(int[] ref) {
        if (ref[1] != -1 && isRev(ref[0], ref[1])) {
            return ref[1];
        }
        return latest(ref[0]);
    }

    private boolean resolvesToReleased(int[] ref) {
        int r = resolve(ref);
        return r != -1 && now.draws.get(ref[0]).revs.get(r).state == 2;
    }

    private Set<Integer> usedBy(int d) {
        Set<Integer> s = new TreeSet<>();
        List<Rev> revs = now.draws.get(d).revs;
        for (int[] ref : revs.get(revs.size() - 1).body.refs) {
            s.add(ref[0]);
        }
        return s;
    }

    private void descend(int d, Set<Integer> seen) {
        for (int t : usedBy(d)) {
            if (seen.add(t)) {
                descend(t, seen);
            }
        }
    }

    boolean person(int p, int rights) {
        power();
        TreeSet<Integer> no = new TreeSet<>();
        if (p < 0 || p > 15 || rights < 0 || rights > 7) {
            no.add(7);
        }
        if (refusedCommand(no, 1)) {
            return false;
        }
        now.rights[p] = rights;
        done(1);
        return true;
    }

    int drawing(int p) {
        power();
        TreeSet<Integer> no = new TreeSet<>();
        if (!can(p, 1)) {
            no.add(1);
        }
        if (now.draws.size() == 24 || revisions() == 100) {
            no.add(8);
        }
        if (refusedCommand(no, 2)) {
            return -1;
        }
        Draw d = new Draw();
        Rev r = new Rev();
        r.body = new Body();
        r.author = p;
        d.revs.add(r);
        now.draws.add(d);
        done(2);
        return now.draws.size() - 1;
    }

    boolean out(int d, int p) {
        power();
        TreeSet<Integer> no = new TreeSet<>();
        if (!can(p, 7)) {
            no.add(1);
        }
        if (!isDraw(d)) {
            no.add(7);
        } else if (now.draws.get(d).holder != -1) {
            no.add(2);
        }
        if (refusedCommand(no, 1)) {
            return false;
        }
        Draw it = now.draws.get(d);
        it.holder = p;
        it.work = it.revs.get(it.revs.size() - 1).body.copy();
        done(1);
        return true;
    }

    private TreeSet<Integer> notOutWith(int d, int p) {
        TreeSet<Integer> no = new TreeSet<>();
        if (!can(p, 7)) {
            no.add(1);
        }
        if (!isDraw(d)) {
            no.add(7);
        } else if (now.draws.get(d).holder != p) {
            no.add(2);
        }
        return no;
    }

    boolean undo(int d, int p) {
        power();
        if (refusedCommand(notOutWith(d, p), 1)) {
            return false;
        }
        now.draws.get(d).holder = -1;
        now.draws.get(d).work = null;
        done(1);
        return true;
    }

    boolean put(int d, int p, int at, int value) {
        power();
        TreeSet<Integer> no = notOutWith(d, p);
        if (no.isEmpty() && (at < 0 || at >= now.draws.get(d).work.bytes.size())) {
            no.add(7);
        }
        if (value < 0 || value > 255) {
            no.add(7);
        }
        if (refused(no)) {
            return false;
        }
        now.draws.get(d).work.bytes.set(at, value);
        return true;
    }

    boolean resize(int d, int p, int bytes) {
        power();
        TreeSet<Integer> no = notOutWith(d, p);
        if (bytes < 0 || bytes > 64) {
            no.add(7);
        }
        if (refused(no)) {
            return false;
        }
        List<Integer> b = now.draws.get(d).work.bytes;
        while (b.size() > bytes) {
            b.remove(b.size() - 1);
        }
        while (b.size() < bytes) {
            b.add(0);
        }
        return true;
    }

    boolean ref(int d, int p, int k, int target, int revision) {
        power();
        TreeSet<Integer> no = notOutWith(d, p);
        if (!isDraw(target) || revision < -1) {
            no.add(7);
        }
        if (no.isEmpty()) {
            int has = now.draws.get(d).work.refs.size();
            if (k < 0 || k > has) {
                no.add(7);
            }
            if (k == has && has == 6) {
                no.add(8);
            }
        }
        if (refused(no)) {
            return false;
        }
        List<int[]> refs = now.draws.get(d).work.refs;
        if (k == refs.size()) {
            refs.add(new int[2]);
        }
        refs.set(k, new int[] {target, revision});
        return true;
    }

    boolean drop(int d, int p, int k) {
        power();
        TreeSet<Integer> no = notOutWith(d, p);
        if (no.isEmpty() && (k < 0 || k >= now.draws.get(d).work.refs.size())) {
            no.add(7);
        }
        if (refused(no)) {
            return false;
        }
        now.draws.get(d).work.refs.remove(k);
        return true;
    }

    int checkIn(int d, int p) {
        power();
        TreeSet<Integer> no = notOutWith(d, p);
        int pages = 0;
        if (no.isEmpty()) {
            Draw it = now.draws.get(d);
            Set<Integer> seen = new TreeSet<>();
            for (int[] ref : it.work.refs) {
                if (seen.add(ref[0])) {
                    descend(ref[0], seen);
                }
                if (ref[1] != -1 && !isRev(ref[0], ref[1])) {
                    no.add(7);
                }
            }
            if (seen.contains(d)) {
                no.add(6);
            }
            if (it.revs.size() == 12 || revisions() == 100) {
                no.add(8);
            }
            pages = 2 + new HashSet<>(it.work.pieces()).size();
        }
        if (refusedCommand(no, pages)) {
            return -1;
        }
        Draw it = now.draws.get(d);
        Rev r = new Rev();
        r.author = p;
        r.body = it.work;
        it.revs.add(r);
        it.work = null;
        it.holder = -1;
        done(pages);
        return it.revs.size() - 1;
    }

    boolean check(int d, int r, int p) {
        power();
        TreeSet<Integer> no = new TreeSet<>();
        if (!can(p, 2)) {
            no.add(1);
        }
        if (isDraw(d) && now.draws.get(d).holder != -1) {
            no.add(2);
        }
        if (!isRev(d, r)) {
            no.add(7);
        } else {
            Rev it = now.draws.get(d).revs.get(r);
            if (it.state != 0 || r != now.draws.get(d).revs.size() - 1) {
                no.add(2);
            }
            if (it.author == p) {
                no.add(3);
            }
        }
        return turn(no, d, r, 1);
    }

    boolean release(int d, int r, int p) {
        power();
        TreeSet<Integer> no = new TreeSet<>();
        if (!can(p, 4)) {
            no.add(1);
        }
        if (!isRev(d, r)) {
            no.add(7);
        } else {
            Rev it = now.draws.get(d).revs.get(r);
            if (it.state != 1) {
                no.add(2);
            }
            for (int[] ref : it.body.refs) {
                if (!resolvesToReleased(ref)) {
                    no.add(4);
                }
            }
        }
        return turn(no, d, r, 2);
    }

    boolean withdraw(int d, int r, int p) {
        power();
        TreeSet<Integer> no = new TreeSet<>();
        if (!can(p, 4)) {
            no.add(1);
        }
        if (!isRev(d, r)) {
            no.add(7);
        } else {
            if (now.draws.get(d).revs.get(r).state == 3) {
                no.add(2);
            }
            for (TreeMap<Integer, Integer> b : now.baselines.values()) {
                if (b.containsKey(d) && b.get(d) == r) {
                    no.add(5);
                }
            }
            for (Draw x : now.draws) {
                for (Rev y : x.revs) {
                    for (int[] ref : y.body.refs) {
                        if (y.state == 2 && ref[0] == d && ref[1] == r) {
                            no.add(5);
                        }
                    }
                }
            }
        }
        return turn(no, d, r, 3);
    }

    private boolean turn(TreeSet<Integer> no, int d, int r, int state) {
        if (refusedCommand(no, 1)) {
            return false;
        }
        now.draws.get(d).revs.get(r).state = state;
        done(1);
        return true;
    }

    int baseline(int n, int d) {
        power();
        TreeSet<Integer> no = new TreeSet<>();
        Set<List<Integer>> reached = new HashSet<>();
        if (n < 0 || n > 9) {
            no.add(7);
        }
        if (now.baselines.containsKey(n)) {
            no.add(2);
        }
        if (!isDraw(d)) {
            no.add(7);
        } else if (latest(d) == -1) {
            no.add(2);
        } else {
            reach(d, latest(d), reached, no);
        }
        TreeMap<Integer, Integer> made = new TreeMap<>();
        for (List<Integer> one : reached) {
            if (made.put(one.get(0), one.get(1)) != null) {
                no.add(2);
            }
        }
        int pages = 1 + (int) Math.ceil(made.size() / 8.0);
        if (refusedCommand(no, pages)) {
            return -1;
        }
        now.baselines.put(n, made);
        done(pages);
        return made.size();
    }

    private void reach(int d, int r, Set<List<Integer>> reached, Set<Integer> no) {
        if (!reached.add(Arrays.asList(d, r))) {
            return;
        }
        for (int[] ref : now.draws.get(d).revs.get(r).body.refs) {
            if (resolvesToReleased(ref)) {
                reach(ref[0], resolve(ref), reached, no);
            } else {
                no.add(4);
            }
        }
    }

    int look(int d, int r, int what) {
        if (!isRev(d, r)) {
            throw new IndexOutOfBoundsException();
        }
        Rev it = now.draws.get(d).revs.get(r);
        if (what == 0) {
            return it.state;
        }
        if (what == 1) {
            return it.author;
        }
        if (what == 2) {
            return it.body.bytes.size();
        }
        if (what == 3) {
            return it.body.refs.size();
        }
        if (what == 4) {
            return new HashSet<>(it.body.pieces()).size();
        }
        if (what >= 8 && what < 8 + it.body.bytes.size()) {
            return it.body.bytes.get(what - 8);
        }
        throw new IndexOutOfBoundsException();
    }

    int reference(int d, int r, int k, int what) {
        if (!isRev(d, r) || k < 0 || k >= now.draws.get(d).revs.get(r).body.refs.size() || what < 0 || what > 2) {
            throw new IndexOutOfBoundsException();
        }
        int[] ref = now.draws.get(d).revs.get(r).body.refs.get(k);
        return what == 2 ? resolve(ref) : ref[what];
    }

    int about(int d, int what) {
        if (!isDraw(d)) {
            throw new IndexOutOfBoundsException();
        }
        Draw it = now.draws.get(d);
        Body work = it.work == null ? new Body() : it.work;
        if (what == 0) {
            return it.revs.size() - 1;
        }
        if (what == 1) {
            return latest(d);
        }
        if (what == 2) {
            return it.holder;
        }
        if (what == 3) {
            return work.bytes.size();
        }
        if (what == 4) {
            return work.refs.size();
        }
        if (what >= 8 && what < 8 + work.bytes.size()) {
            return work.bytes.get(what - 8);
        }
        if (what >= 200 && what < 200 + 2 * work.refs.size()) {
            return work.refs.get((what - 200) / 2)[what % 2];
        }
        throw new IndexOutOfBoundsException();
    }

    int inBaseline(int n, int k, int what) {
        TreeMap<Integer, Integer> b = now.baselines.get(n);
        if (b == null) {
            throw new IndexOutOfBoundsException();
        }
        if (k == -1 && what == 0) {
            return b.size();
        }
        if (k < 0 || k >= b.size() || what < 0 || what > 1) {
            throw new IndexOutOfBoundsException();
        }
        int d = new ArrayList<>(b.keySet()).get(k);
        return what == 0 ? d : b.get(d);
    }

    int user(int d, boolean all, int k) {
        List<Integer> users = new ArrayList<>();
        for (int u = 0; u < now.draws.size(); u++) {
            Set<Integer> seen = new TreeSet<>();
            if (all) {
                descend(u, seen);
            } else {
                seen = usedBy(u);
            }
            if (seen.contains(d)) {
                users.add(u);
            }
        }
        return k >= 0 && k < users.size() ? users.get(k) : -1;
    }

    int difference(int d, int r, int other, int k) {
        if (!isRev(d, r) || !isRev(d, other)) {
            throw new IndexOutOfBoundsException();
        }
        List<List<Integer>> a = now.draws.get(d).revs.get(r).body.pieces();
        List<List<Integer>> b = now.draws.get(d).revs.get(other).body.pieces();
        List<Integer> places = new ArrayList<>();
        for (int i = 0; i < Math.max(a.size(), b.size()); i++) {
            if (i >= a.size() || i >= b.size() || !a.get(i).equals(b.get(i))) {
                places.add(i);
            }
        }
        return k >= 0 && k < places.size() ? places.get(k) : -1;
    }

    boolean failAfter(int n) {
        if (n < 0 || failed) {
            return false;
        }
        budget = n;
        return true;
    }

    int start() {
        now = written.copy();
        failed = false;
        budget = Long.MAX_VALUE;
        int out = 0;
        for (Draw d : now.draws) {
            out += d.holder == -1 ? 0 : 1;
        }
        return out;
    }

    int count(int what) {
        if (what == 0) {
            return now.draws.size();
        }
        if (what == 1) {
            return revisions();
        }
        if (what == 2) {
            Set<List<Integer>> chunks = new HashSet<>();
            for (Draw d : now.draws) {
                for (Rev r : d.revs) {
                    chunks.addAll(r.body.pieces());
                }
                if (d.work != null) {
                    chunks.addAll(d.work.pieces());
                }
            }
            return chunks.size();
        }
        if (what == 3) {
            return 400 - now.used;
        }
        if (what == 4) {
            return now.commands;
        }
        if (what == 5) {
            return now.copied;
        }
        if (what == 6) {
            return now.baselines.size();
        }
        if (what == 7) {
            return failed ? 1 : 0;
        }
        return -1;
    }
}
