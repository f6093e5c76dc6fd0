import java.util.ArrayList;
import java.util.Arrays;
import java.util.List;
import java.util.Set;
import java.util.TreeSet;

/**
 * The document told a second time, for comparison with the program: it keeps a
 * whole copy of the world after every unflushed event instead of a log.
 */
final class Model {
    static final class Proposal {
        int[] base;
        int[] own;
        int state = 0;
        int cause = 0;
        final Set<Integer> supporters = new TreeSet<>();
        final Set<Integer> opponents = new TreeSet<>();

        Proposal copy() {
            Proposal copy = new Proposal();
            copy.base = base.clone();
            copy.own = own.clone();
            copy.state = state;
            copy.cause = cause;
            copy.supporters.addAll(supporters);
            copy.opponents.addAll(opponents);
            return copy;
        }

        /** The tree with this merged into it; null when they conflict. */
        int[] mergedInto(int[] tree) {
            int[] result = tree.clone();
            for (int path = 0; path < 6; path++) {
                if (own[path] == base[path]) {
                    continue;
                }
                if (tree[path] == base[path] || tree[path] == own[path]) {
                    result[path] = own[path];
                } else {
                    return null;
                }
            }
            return result;
        }
    }

    enum Job { WAITING, LEASED, PASSED, FAILED }

    static final class World {
        int time = 0;
        int version = 0;
        int[] trunk = {17, 0, 0, 0, 0, 0};
        final List<Proposal> changes = new ArrayList<>();
        final List<Integer> queue = new ArrayList<>();
        final List<Integer> plan = new ArrayList<>();
        /** The tree under test, null when none is, and what belongs to it. */
        int[] tested = null;
        final List<Integer> members = new ArrayList<>();
        Job[] jobs = new Job[4];
        int[] attempts = new int[4];
        /** What each worker has leased (-1 nothing), and until when. */
        int[] leasedJob = {-1, -1, -1, -1};
        int[] leasedUntil = new int[4];

        World copy() {
            World copy = new World();
            copy.time = time;
            copy.version = version;
            copy.trunk = trunk.clone();
            for (Proposal change : changes) {
                copy.changes.add(change.copy());
            }
            copy.queue.addAll(queue);
            copy.plan.addAll(plan);
            copy.tested = tested == null ? null : tested.clone();
            copy.members.addAll(members);
            copy.jobs = jobs.clone();
            copy.attempts = attempts.clone();
            copy.leasedJob = leasedJob.clone();
            copy.leasedUntil = leasedUntil.clone();
            return copy;
        }
    }

    private final int approvals;
    private final int batchSize;
    private final int retries;
    private final int lease;
    World now = new World();
    private World flushed = new World();
    private final List<World> unflushed = new ArrayList<>();

    Model(int approvals, int batch, int retries, int lease) {
        this.approvals = inRange(approvals, 0, 3);
        this.batchSize = inRange(batch, 1, 8);
        this.retries = inRange(retries, 0, 2);
        this.lease = inRange(lease, 1, 9);
    }

    private static int inRange(int number, int low, int high) {
        if (number < low) {
            return low;
        }
        return number > high ? high : number;
    }

    private void endEvent() {
        build();
        if (unflushed.size() == 16) {
            flushed = unflushed.get(15);
            unflushed.clear();
        }
        unflushed.add(now.copy());
    }

    private boolean exists(int c) {
        return 0 <= c && c < now.changes.size();
    }

    private boolean hasState(int c, Integer... states) {
        return exists(c) && Arrays.asList(states).contains(now.changes.get(c).state);
    }

    // ---- pipelines

    static boolean bit(int p, int number) {
        return (p & 1 << number) != 0;
    }

    static boolean there(int p, int j) {
        return bit(p, j);
    }

    static boolean required(int p, int j) {
        return bit(p, j) && bit(p, 4 + j);
    }

    static boolean needs(int p, int j, int k) {
        return bit(p, 8 + 4 * j + k);
    }

    /** All that job j needs, directly or by way of others, among the jobs that are there. */
    static Set<Integer> allNeeds(int p, int j) {
        Set<Integer> found = new TreeSet<>();
        collectNeeds(p, j, found);
        return found;
    }

    private static void collectNeeds(int p, int j, Set<Integer> found) {
        for (int k = 0; k < 4; k++) {
            if (there(p, k) && needs(p, j, k) && found.add(k)) {
                collectNeeds(p, k, found);
            }
        }
    }

    static boolean valid(int p) {
        boolean someRequired = false;
        for (int j = 0; j < 4; j++) {
            if (!there(p, j)) {
                continue;
            }
            someRequired = someRequired || required(p, j);
            for (int k = 0; k < 4; k++) {
                if (needs(p, j, k) && !there(p, k)) {
                    return false;
                }
            }
            if (allNeeds(p, j).contains(j)) {
                return false;
            }
        }
        return someRequired;
    }

    // ---- batches

    private void build() {
        World w = now;
        while (w.tested == null && !w.queue.isEmpty()) {
            if (w.plan.isEmpty()) {
                w.plan.add(Math.min(batchSize, w.queue.size()));
            }
            int[] tree = w.trunk.clone();
            List<Integer> merged = new ArrayList<>();
            for (int c : new ArrayList<>(w.queue.subList(0, w.plan.get(0)))) {
                int[] next = w.changes.get(c).mergedInto(tree);
                if (next == null) {
                    reject(c, 1);
                    w.plan.set(0, w.plan.get(0) - 1);
                } else {
                    tree = next;
                    merged.add(c);
                }
            }
            if (w.plan.get(0) == 0) {
                w.plan.remove(0);
                continue;
            }
            w.members.clear();
            w.members.addAll(merged);
            if (!valid(tree[0])) {
                fail(2);
                continue;
            }
            w.tested = tree;
            for (int j = 0; j < 4; j++) {
                w.jobs[j] = there(tree[0], j) ? Job.WAITING : null;
                w.attempts[j] = 0;
            }
        }
    }

    private void reject(int c, int cause) {
        now.changes.get(c).state = 3;
        now.changes.get(c).cause = cause;
        now.queue.remove(Integer.valueOf(c));
    }

    private void stopTest() {
        now.tested = null;
        Arrays.fill(now.jobs, null);
        Arrays.fill(now.leasedJob, -1);
    }

    private void fail(int cause) {
        stopTest();
        int n = now.members.size();
        if (n == 1) {
            reject(now.members.get(0), cause);
            now.plan.remove(0);
        } else {
            now.plan.set(0, (n + 1) / 2);
            now.plan.add(1, n / 2);
        }
        now.members.clear();
    }

    private void pass() {
        now.trunk = now.tested;
        stopTest();
        now.version++;
        for (int c : now.members) {
            now.changes.get(c).state = 2;
            now.queue.remove(Integer.valueOf(c));
        }
        now.plan.remove(0);
        now.members.clear();
    }

    private void settleJob(int j, boolean passed) {
        int p = now.tested[0];
        if (passed) {
            now.jobs[j] = Job.PASSED;
        } else {
            for (int k = 0; k < 4; k++) {
                if (k == j || there(p, k) && allNeeds(p, k).contains(j)) {
                    now.jobs[k] = Job.FAILED;
                    for (int w = 0; w < 4; w++) {
                        if (now.leasedJob[w] == k) {
                            now.leasedJob[w] = -1;
                        }
                    }
                }
            }
        }
        boolean allPassed = true;
        for (int k = 0; k < 4; k++) {
            if (required(p, k) && now.jobs[k] == Job.FAILED) {
                fail(10 + k);
                return;
            }
            allPassed = allPassed && (!required(p, k) || now.jobs[k] == Job.PASSED);
        }
        if (allPassed) {
            pass();
        }
    }

    private void expire(int w) {
        int j = now.leasedJob[w];
        now.leasedJob[w] = -1;
        if (now.attempts[j] == retries + 1) {
            settleJob(j, false);
        } else {
            now.jobs[j] = Job.WAITING;
        }
    }

    // ---- the face

    int open() {
        if (now.changes.size() == 16) {
            return -1;
        }
        Proposal change = new Proposal();
        change.base = now.trunk.clone();
        change.own = now.trunk.clone();
        now.changes.add(change);
        endEvent();
        return now.changes.size() - 1;
    }

    boolean push(int c, int path, int content) {
        if (!hasState(c, 0) || path < 0 || path > 5) {
            return false;
        }
        Proposal change = now.changes.get(c);
        change.own[path] = content;
        change.supporters.clear();
        change.opponents.clear();
        endEvent();
        return true;
    }

    boolean approve(int c, int r) {
        if (!hasState(c, 0) || r < 0 || r > 7) {
            return false;
        }
        now.changes.get(c).opponents.remove(r);
        now.changes.get(c).supporters.add(r);
        endEvent();
        return true;
    }

    boolean object(int c, int r) {
        if (!hasState(c, 0) || r < 0 || r > 7) {
            return false;
        }
        now.changes.get(c).supporters.remove(r);
        now.changes.get(c).opponents.add(r);
        endEvent();
        return true;
    }

    boolean close(int c) {
        if (!hasState(c, 0, 3)) {
            return false;
        }
        now.changes.get(c).state = 4;
        now.changes.get(c).cause = 0;
        endEvent();
        return true;
    }

    boolean enqueue(int c) {
        if (!hasState(c, 0)) {
            return false;
        }
        Proposal change = now.changes.get(c);
        if (change.supporters.size() < approvals || !change.opponents.isEmpty()) {
            return false;
        }
        change.state = 1;
        now.queue.add(c);
        endEvent();
        return true;
    }

    boolean rebase(int c) {
        if (!hasState(c, 0, 3)) {
            return false;
        }
        Proposal change = now.changes.get(c);
        int[] merged = change.mergedInto(now.trunk);
        if (merged == null) {
            return false;
        }
        change.own = merged;
        change.base = now.trunk.clone();
        change.state = 0;
        change.cause = 0;
        change.supporters.clear();
        change.opponents.clear();
        endEvent();
        return true;
    }

    int claim(int w) {
        if (w < 0 || w > 3 || now.leasedJob[w] != -1 || now.tested == null) {
            return -1;
        }
        for (int j = 0; j < 4; j++) {
            boolean ready = now.jobs[j] == Job.WAITING;
            for (int k = 0; k < 4; k++) {
                ready = ready && (!needs(now.tested[0], j, k) || now.jobs[k] == Job.PASSED);
            }
            if (ready) {
                now.jobs[j] = Job.LEASED;
                now.attempts[j]++;
                now.leasedJob[w] = j;
                now.leasedUntil[w] = now.time + lease;
                endEvent();
                return j;
            }
        }
        return -1;
    }

    boolean report(int w, boolean passed) {
        if (w < 0 || w > 3 || now.leasedJob[w] == -1) {
            return false;
        }
        int j = now.leasedJob[w];
        now.leasedJob[w] = -1;
        settleJob(j, passed);
        endEvent();
        return true;
    }

    int tick(int n) {
        if (n < 1 || n > 20) {
            return -1;
        }
        int expired = 0;
        for (int i = 0; i < n; i++) {
            now.time++;
            for (int w = 0; w < 4; w++) {
                if (now.leasedJob[w] != -1 && now.leasedUntil[w] <= now.time) {
                    expire(w);
                    expired++;
                }
            }
            build();
        }
        endEvent();
        return expired;
    }

    int flush() {
        int count = unflushed.size();
        if (count > 0) {
            flushed = unflushed.get(count - 1);
        }
        unflushed.clear();
        return count;
    }

    int crash(int survive) {
        int kept = inRange(survive, 0, unflushed.size());
        int lost = unflushed.size() - kept;
        now = kept == 0 ? flushed : unflushed.get(kept - 1);
        for (int w = 0; w < 4; w++) {
            if (now.leasedJob[w] != -1) {
                expire(w);
            }
        }
        build();
        flushed = now.copy();
        unflushed.clear();
        return lost;
    }

    int state(int c) {
        return exists(c) ? now.changes.get(c).state : -1;
    }

    int cause(int c) {
        return exists(c) ? now.changes.get(c).cause : -1;
    }

    int standing(int c) {
        if (!exists(c)) {
            return -1;
        }
        return now.changes.get(c).supporters.size() + 10 * now.changes.get(c).opponents.size();
    }

    int file(int which, int path) {
        int[] tree = null;
        if (which == -1) {
            tree = now.trunk;
        } else if (which == -2) {
            tree = now.tested;
        } else if (exists(which)) {
            tree = now.changes.get(which).own;
        }
        return tree == null || path < 0 || path > 5 ? 0 : tree[path];
    }

    int queueAt(int k) {
        return k < 0 || k >= now.queue.size() ? -1 : now.queue.get(k);
    }

    int batch() {
        return now.tested == null ? 0 : now.members.size();
    }

    int job(int j) {
        if (now.tested == null || j < 0 || j > 3 || now.jobs[j] == null) {
            return 0;
        }
        for (int w = 0; w < 4; w++) {
            if (now.leasedJob[w] == j) {
                return 10 + w;
            }
        }
        return now.jobs[j] == Job.WAITING ? 1 : now.jobs[j] == Job.PASSED ? 2 : 3;
    }

    int version() {
        return now.version;
    }
}
