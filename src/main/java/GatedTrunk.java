/**
 * A trunk of files that moves on only to trees that were tried as they are.
 *
 * The face below refuses what must be refused, writes every other call of an
 * event into the log, and lets the live state carry it out. A crash goes back
 * to the flushed state and carries out again those events of the log that
 * survive: an event always does the same to the same state, so no state
 * between two events has to be kept.
 */
public final class GatedTrunk {
    public static final int NONE = -1;

    private static final int PATHS = 6;
    private static final int PIPELINE_PATH = 0;
    private static final int FIRST_PIPELINE = 17;
    private static final int MOST_CHANGES = 16;
    private static final int MOST_MEMBERS = 8;
    private static final int MOST_APPROVALS = 3;
    private static final int MOST_RETRIES = 2;
    private static final int LONGEST_LEASE = 9;
    private static final int MOST_TICKS = 20;
    private static final int MOST_UNFLUSHED = 16;
    private static final int REVIEWERS = 8;
    private static final int WORKERS = 4;
    private static final int JOBS = 4;
    /** Far more batches than one event can build. */
    private static final int MANY = 1000000;

    private static final int TRUNK_TREE = -1;
    private static final int BATCH_TREE = -2;

    private static final int OPEN = 0;
    private static final int QUEUED = 1;
    private static final int MERGED = 2;
    private static final int REJECTED = 3;
    private static final int CLOSED = 4;

    private static final int CAUSE_CONFLICT = 1;
    private static final int CAUSE_PIPELINE = 2;
    private static final int CAUSE_JOB = 10;

    private static final int ABSENT = 0;
    private static final int WAITING = 1;
    private static final int PASSED = 2;
    private static final int FAILED = 3;
    private static final int LEASED = 10;

    private static final int OPENING = 0;
    private static final int PUSHING = 1;
    private static final int APPROVING = 2;
    private static final int OBJECTING = 3;
    private static final int CLOSING = 4;
    private static final int ENQUEUING = 5;
    private static final int REBASING = 6;
    private static final int CLAIMING = 7;
    private static final int REPORTING = 8;
    private static final int TICKING = 9;

    private final State live;
    private final State flushed;
    private final Event[] log;
    private int unflushed;

    public GatedTrunk(int approvals, int batch, int retries, int lease) {
        Settings settings = new Settings();
        settings.approvals = clamped(approvals, 0, MOST_APPROVALS);
        settings.batchSize = clamped(batch, 1, MOST_MEMBERS);
        settings.retries = clamped(retries, 0, MOST_RETRIES);
        settings.leaseTicks = clamped(lease, 1, LONGEST_LEASE);
        live = new State(settings);
        flushed = new State(settings);
        log = new Event[MOST_UNFLUSHED];
        for (int i = 0; i < MOST_UNFLUSHED; i++) {
            log[i] = new Event();
        }
        unflushed = 0;
    }

    public int open() {
        if (live.changeCount >= MOST_CHANGES) {
            return NONE;
        }
        return live.carryOut(logged(OPENING, 0, 0, 0));
    }

    public boolean push(int c, int path, int content) {
        if (!live.isOpen(c) || !isPath(path)) {
            return false;
        }
        live.carryOut(logged(PUSHING, c, path, content));
        return true;
    }

    public boolean approve(int c, int r) {
        if (!live.isOpen(c) || !isReviewer(r)) {
            return false;
        }
        live.carryOut(logged(APPROVING, c, r, 0));
        return true;
    }

    public boolean object(int c, int r) {
        if (!live.isOpen(c) || !isReviewer(r)) {
            return false;
        }
        live.carryOut(logged(OBJECTING, c, r, 0));
        return true;
    }

    public boolean close(int c) {
        if (!live.isOpenOrRejected(c)) {
            return false;
        }
        live.carryOut(logged(CLOSING, c, 0, 0));
        return true;
    }

    public boolean enqueue(int c) {
        if (!live.mayBeQueued(c)) {
            return false;
        }
        live.carryOut(logged(ENQUEUING, c, 0, 0));
        return true;
    }

    public boolean rebase(int c) {
        if (!live.mayBeRebased(c)) {
            return false;
        }
        live.carryOut(logged(REBASING, c, 0, 0));
        return true;
    }

    public int claim(int w) {
        if (live.jobToLease(w) == NONE) {
            return NONE;
        }
        return live.carryOut(logged(CLAIMING, w, 0, 0));
    }

    public boolean report(int w, boolean passed) {
        if (live.batch.leasedJob(w) == NONE) {
            return false;
        }
        live.carryOut(logged(REPORTING, w, passed ? PASSED : FAILED, 0));
        return true;
    }

    public int tick(int n) {
        if (n < 1 || n > MOST_TICKS) {
            return NONE;
        }
        return live.carryOut(logged(TICKING, n, 0, 0));
    }

    public int flush() {
        int newlyFlushed = unflushed;
        keepLiveState();
        return newlyFlushed;
    }

    public int crash(int survive) {
        int surviving = clamped(survive, 0, unflushed);
        int lost = unflushed - surviving;
        live.copyFrom(flushed);
        for (int i = 0; i < surviving; i++) {
            live.carryOut(log[i]);
        }
        live.recover();
        keepLiveState();
        return lost;
    }

    public int state(int c) {
        return live.isChange(c) ? live.changes[c].condition : NONE;
    }

    public int cause(int c) {
        return live.isChange(c) ? live.changes[c].rejection : NONE;
    }

    public int standing(int c) {
        if (!live.isChange(c)) {
            return NONE;
        }
        return live.changes[c].countFor() + 10 * live.changes[c].countAgainst();
    }

    public int file(int which, int path) {
        if (!isPath(path)) {
            return 0;
        }
        if (which == TRUNK_TREE) {
            return live.trunk[path];
        }
        if (which == BATCH_TREE) {
            return live.batch.isUnderTest() ? live.batch.tree[path] : 0;
        }
        return live.isChange(which) ? live.changes[which].own[path] : 0;
    }

    public int queueAt(int k) {
        return live.queue.at(k);
    }

    public int batch() {
        return live.batch.members;
    }

    public int job(int j) {
        return j >= 0 && j < JOBS ? live.batch.jobs[j] : ABSENT;
    }

    public int version() {
        return live.trunkVersion;
    }

    /** Only for calls that are not refused: a full log is flushed before the event happens. */
    private Event logged(int kind, int first, int second, int third) {
        if (unflushed >= MOST_UNFLUSHED) {
            keepLiveState();
        }
        Event event = log[unflushed];
        unflushed++;
        event.kind = kind;
        event.first = first;
        event.second = second;
        event.third = third;
        return event;
    }

    private void keepLiveState() {
        flushed.copyFrom(live);
        unflushed = 0;
    }

    private static int clamped(int number, int least, int most) {
        return Math.max(least, Math.min(most, number));
    }

    private static boolean isPath(int path) {
        return path >= 0 && path < PATHS;
    }

    private static boolean isReviewer(int r) {
        return r >= 0 && r < REVIEWERS;
    }

    private static boolean isWorker(int w) {
        return w >= 0 && w < WORKERS;
    }

    private static void copyNumbers(int[] from, int[] to) {
        System.arraycopy(from, 0, to, 0, Math.min(from.length, to.length));
    }

    /** What the constructor was given, each number in its range. */
    private static final class Settings {
        int approvals;
        int batchSize;
        int retries;
        int leaseTicks;
    }

    /** A call that was not refused: its kind and its arguments, in their order. */
    private static final class Event {
        int kind;
        int first;
        int second;
        int third;
    }

    /** Reads the pipeline that a tree's content at path 0 spells. Sets of jobs are bits, 2^j for job j. */
    private static final class Pipeline {
        static boolean isThere(int pipeline, int j) {
            return (pipeline >> j & 1) != 0;
        }

        static boolean isRequired(int pipeline, int j) {
            return isThere(pipeline, j) && (pipeline >> (JOBS + j) & 1) != 0;
        }

        static int needsOf(int pipeline, int j) {
            return pipeline >> (2 * JOBS + JOBS * j) & (1 << JOBS) - 1;
        }

        /** The jobs there that need job k, directly or by way of others that are there. */
        static int allThatNeed(int pipeline, int k) {
            int found = 0;
            // A way without a circle passes each job once, so so many rounds reach all.
            for (int round = 0; round < JOBS; round++) {
                for (int j = 0; j < JOBS; j++) {
                    if (isThere(pipeline, j) && (needsOf(pipeline, j) & (found | 1 << k)) != 0) {
                        found |= 1 << j;
                    }
                }
            }
            return found;
        }

        static boolean isValid(int pipeline) {
            boolean someRequired = false;
            int there = pipeline & (1 << JOBS) - 1;
            for (int j = 0; j < JOBS; j++) {
                someRequired = someRequired || isRequired(pipeline, j);
                boolean needsAbsent = (needsOf(pipeline, j) & ~there) != 0;
                boolean needsItself = (allThatNeed(pipeline, j) >> j & 1) != 0;
                if (isThere(pipeline, j) && (needsAbsent || needsItself)) {
                    return false;
                }
            }
            return someRequired;
        }
    }

    private static final class Change {
        final int[] base = new int[PATHS];
        final int[] own = new int[PATHS];
        int condition;
        int rejection;
        /** Reviewers that stand for and against, 2^r for reviewer r. */
        int standFor;
        int standAgainst;

        void copyFrom(Change other) {
            copyNumbers(other.base, base);
            copyNumbers(other.own, own);
            condition = other.condition;
            rejection = other.rejection;
            standFor = other.standFor;
            standAgainst = other.standAgainst;
        }

        void startFrom(int[] trunk) {
            copyNumbers(trunk, base);
            copyNumbers(trunk, own);
            become(OPEN, 0);
            dropReviews();
        }

        void become(int newCondition, int newRejection) {
            condition = newCondition;
            rejection = newRejection;
        }

        void setContent(int path, int content) {
            own[path] = content;
            dropReviews();
        }

        void dropReviews() {
            standFor = 0;
            standAgainst = 0;
        }

        void addSupporter(int r) {
            standFor |= 1 << r;
            standAgainst &= ~(1 << r);
        }

        void addOpponent(int r) {
            standAgainst |= 1 << r;
            standFor &= ~(1 << r);
        }

        int countFor() {
            return Integer.bitCount(standFor);
        }

        int countAgainst() {
            return Integer.bitCount(standAgainst);
        }

        boolean conflictsWith(int[] tree) {
            for (int path = 0; path < PATHS; path++) {
                boolean changed = own[path] != base[path];
                if (changed && tree[path] != base[path] && tree[path] != own[path]) {
                    return true;
                }
            }
            return false;
        }

        /** Only for a tree that the change does not conflict with. */
        void mergeInto(int[] tree) {
            for (int path = 0; path < PATHS; path++) {
                if (own[path] != base[path]) {
                    tree[path] = own[path];
                }
            }
        }

        /** Only for a trunk that the change does not conflict with. */
        void moveOnto(int[] trunk) {
            for (int path = 0; path < PATHS; path++) {
                if (own[path] == base[path]) {
                    own[path] = trunk[path];
                }
            }
            copyNumbers(trunk, base);
            become(OPEN, 0);
            dropReviews();
        }
    }

    /** A row of numbers with room for so many, made once. */
    private static final class Row {
        final int[] numbers;
        int length;

        Row(int room) {
            numbers = new int[room];
        }

        void copyFrom(Row other) {
            copyNumbers(other.numbers, numbers);
            length = other.length;
        }

        int at(int k) {
            return k >= 0 && k < length ? numbers[k] : NONE;
        }

        void insert(int k, int number) {
            if (k < 0 || k > length || length >= numbers.length) {
                return;
            }
            for (int i = length; i > k; i--) {
                numbers[i] = numbers[i - 1];
            }
            numbers[k] = number;
            length++;
        }

        void append(int number) {
            insert(length, number);
        }

        void removeAt(int k) {
            if (k < 0 || k >= length) {
                return;
            }
            length--;
            for (int i = k; i < length; i++) {
                numbers[i] = numbers[i + 1];
            }
        }

        void replaceFirst(int number) {
            removeAt(0);
            insert(0, number);
        }
    }

    /** The batch under test; while none is, it has no members and all its jobs are absent. */
    private static final class Batch {
        final int[] tree = new int[PATHS];
        int members;
        /** Each job as the face answers it; a lease stands nowhere else, so it ends with the job's. */
        final int[] jobs = new int[JOBS];
        final int[] attempts = new int[JOBS];
        /** For each worker with a lease the time until which it lasts. */
        final int[] leaseEnds = new int[WORKERS];

        void copyFrom(Batch other) {
            copyNumbers(other.tree, tree);
            members = other.members;
            copyNumbers(other.jobs, jobs);
            copyNumbers(other.attempts, attempts);
            copyNumbers(other.leaseEnds, leaseEnds);
        }

        boolean isUnderTest() {
            return members > 0;
        }

        int pipeline() {
            return tree[PIPELINE_PATH];
        }

        void start(int memberCount) {
            members = memberCount;
            for (int j = 0; j < JOBS; j++) {
                jobs[j] = Pipeline.isThere(pipeline(), j) ? WAITING : ABSENT;
                attempts[j] = 0;
            }
        }

        void end() {
            members = 0;
            for (int j = 0; j < JOBS; j++) {
                jobs[j] = ABSENT;
            }
        }

        int leasedJob(int w) {
            for (int j = 0; j < JOBS; j++) {
                if (isWorker(w) && jobs[j] == LEASED + w) {
                    return j;
                }
            }
            return NONE;
        }

        int nextJob() {
            for (int j = 0; j < JOBS; j++) {
                if (jobs[j] == WAITING && (Pipeline.needsOf(pipeline(), j) & ~passedJobs()) == 0) {
                    return j;
                }
            }
            return NONE;
        }

        void lease(int j, int w, int end) {
            jobs[j] = LEASED + w;
            attempts[j]++;
            leaseEnds[w] = end;
        }

        void expireLease(int j, int mostAttempts) {
            if (attempts[j] >= mostAttempts) {
                failJob(j);
            } else {
                jobs[j] = WAITING;
            }
        }

        void failJob(int j) {
            int failing = Pipeline.allThatNeed(pipeline(), j) | 1 << j;
            for (int k = 0; k < JOBS; k++) {
                if ((failing >> k & 1) != 0) {
                    jobs[k] = FAILED;
                }
            }
        }

        int firstFailedRequired() {
            for (int j = 0; j < JOBS; j++) {
                if (jobs[j] == FAILED && Pipeline.isRequired(pipeline(), j)) {
                    return j;
                }
            }
            return NONE;
        }

        boolean hasPassedRequired() {
            for (int j = 0; j < JOBS; j++) {
                if (jobs[j] != PASSED && Pipeline.isRequired(pipeline(), j)) {
                    return false;
                }
            }
            return true;
        }

        private int passedJobs() {
            int found = 0;
            for (int j = 0; j < JOBS; j++) {
                if (jobs[j] == PASSED) {
                    found |= 1 << j;
                }
            }
            return found;
        }
    }

    /** All that a crash can bring back. */
    private static final class State {
        final Settings settings;
        final int[] trunk = new int[PATHS];
        int trunkVersion;
        final Change[] changes = new Change[MOST_CHANGES];
        int changeCount;
        final Row queue = new Row(MOST_CHANGES);
        final Row plan = new Row(MOST_MEMBERS);
        final Batch batch = new Batch();
        int time;

        State(Settings settings) {
            this.settings = settings;
            trunk[PIPELINE_PATH] = FIRST_PIPELINE;
            for (int c = 0; c < MOST_CHANGES; c++) {
                changes[c] = new Change();
            }
        }

        void copyFrom(State other) {
            copyNumbers(other.trunk, trunk);
            trunkVersion = other.trunkVersion;
            for (int c = 0; c < MOST_CHANGES; c++) {
                changes[c].copyFrom(other.changes[c]);
            }
            changeCount = other.changeCount;
            queue.copyFrom(other.queue);
            plan.copyFrom(other.plan);
            batch.copyFrom(other.batch);
            time = other.time;
        }

        boolean isChange(int c) {
            return c >= 0 && c < changeCount;
        }

        boolean isOpen(int c) {
            return isChange(c) && changes[c].condition == OPEN;
        }

        boolean isOpenOrRejected(int c) {
            return isOpen(c) || isChange(c) && changes[c].condition == REJECTED;
        }

        boolean mayBeQueued(int c) {
            return isOpen(c) && changes[c].countFor() >= settings.approvals && changes[c].countAgainst() == 0;
        }

        boolean mayBeRebased(int c) {
            return isOpenOrRejected(c) && !changes[c].conflictsWith(trunk);
        }

        int jobToLease(int w) {
            return isWorker(w) && batch.leasedJob(w) == NONE ? batch.nextJob() : NONE;
        }

        /** Only for an event that was not refused; the answer counts for opening, claiming and ticking alone. */
        int carryOut(Event event) {
            int answer = 0;
            switch (event.kind) {
                case OPENING:
                    answer = addChange();
                    break;
                case PUSHING:
                    changes[event.first].setContent(event.second, event.third);
                    break;
                case APPROVING:
                    changes[event.first].addSupporter(event.second);
                    break;
                case OBJECTING:
                    changes[event.first].addOpponent(event.second);
                    break;
                case CLOSING:
                    changes[event.first].become(CLOSED, 0);
                    break;
                case ENQUEUING:
                    changes[event.first].become(QUEUED, 0);
                    queue.append(event.first);
                    break;
                case REBASING:
                    changes[event.first].moveOnto(trunk);
                    break;
                case CLAIMING:
                    answer = leaseNextJob(event.first);
                    break;
                case REPORTING:
                    endJob(batch.leasedJob(event.first), event.second);
                    break;
                case TICKING:
                    for (int i = 0; i < event.first; i++) {
                        time++;
                        answer += expireLeases(false);
                        buildBatches();
                    }
                    break;
                default:
                    break;
            }
            buildBatches();
            return answer;
        }

        private int addChange() {
            int c = changeCount;
            changes[c].startFrom(trunk);
            changeCount++;
            return c;
        }

        private int leaseNextJob(int w) {
            int j = batch.nextJob();
            if (j != NONE) {
                batch.lease(j, w, time + settings.leaseTicks);
            }
            return j;
        }

        void recover() {
            expireLeases(true);
            buildBatches();
        }

        /** Answers how many leases expired: all of them, or only those that last until this time. */
        private int expireLeases(boolean all) {
            int expired = 0;
            for (int w = 0; w < WORKERS; w++) {
                int j = batch.leasedJob(w);
                if (j != NONE && (all || batch.leaseEnds[w] == time)) {
                    batch.expireLease(j, settings.retries + 1);
                    // Where the job only waits again there is nothing to judge, and judging changes nothing.
                    judgeBatch();
                    expired++;
                }
            }
            return expired;
        }

        private void endJob(int j, int outcome) {
            if (j == NONE) {
                return;
            }
            if (outcome == PASSED) {
                batch.jobs[j] = PASSED;
            } else {
                batch.failJob(j);
            }
            judgeBatch();
        }

        private void judgeBatch() {
            int failed = batch.firstFailedRequired();
            if (failed != NONE) {
                failBatch(batch.members, CAUSE_JOB + failed);
            } else if (batch.hasPassedRequired()) {
                passBatch();
            }
        }

        private void passBatch() {
            copyNumbers(batch.tree, trunk);
            trunkVersion++;
            for (int i = 0; i < batch.members; i++) {
                takeFromQueue(0, MERGED, 0);
            }
            plan.removeAt(0);
            batch.end();
        }

        private void failBatch(int members, int cause) {
            batch.end();
            if (members == 1) {
                takeFromQueue(0, REJECTED, cause);
                plan.removeAt(0);
            } else {
                plan.replaceFirst(members / 2);
                plan.insert(0, (members + 1) / 2);
            }
        }

        private void takeFromQueue(int place, int condition, int cause) {
            int c = queue.at(place);
            if (isChange(c)) {
                changes[c].become(condition, cause);
                queue.removeAt(place);
            }
        }

        private void buildBatches() {
            for (int i = 0; i < MANY && !batch.isUnderTest() && queue.length > 0; i++) {
                buildBatch();
            }
        }

        private void buildBatch() {
            if (plan.length == 0) {
                plan.append(Math.min(settings.batchSize, queue.length));
            }
            int members = mergeFirst(plan.at(0));
            if (members == 0) {
                plan.removeAt(0);
                return;
            }
            plan.replaceFirst(members);
            if (Pipeline.isValid(batch.pipeline())) {
                batch.start(members);
            } else {
                failBatch(members, CAUSE_PIPELINE);
            }
        }

        /** Merges the first so many of the queue into the batch's tree; answers how many did not conflict. */
        private int mergeFirst(int count) {
            copyNumbers(trunk, batch.tree);
            int members = 0;
            for (int i = 0; i < count && members < queue.length; i++) {
                Change change = changes[queue.at(members)];
                if (change.conflictsWith(batch.tree)) {
                    takeFromQueue(members, REJECTED, CAUSE_CONFLICT);
                } else {
                    change.mergeInto(batch.tree);
                    members++;
                }
            }
            return members;
        }
    }
}
