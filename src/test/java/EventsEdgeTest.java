/** The edges of "Events", and of promises 12 and 13: what is flushed, what survives a crash and what doesn't. */
public final class EventsEdgeTest extends Steps {
    /** Something done to an object. */
    private interface Step {
        void on(GatedTrunk x);
    }

    public static void main(String[] args) {
        eachKindIsOneEvent();
        manyRejectionsAreOneEvent();
        flushAndCrashAreNone();
        looksAreNone();
        sixteenAndOneMore();
        seventeenthFlushesSixteen();
        sixteenCountAgain();
        flushOfNone();
        surviveOfNone();
        surviveOfSixteen();
        surviveOfOne();
        changesComeBack();
        lostNumbersAreGivenAgain();
        baseComesBack();
        passedBatchComesBack();
        failedBatchComesBack();
        conflictComesBack();
        planComesBack();
        jobsComeBack();
        expiredLeaseComesBack();
        leasesDoNotComeBack();
        attemptsCount();
        lostClaimsAreNoAttempts();
        survivingTicks();
        crashFailsABatch();
        crashFailsAJob();
        workerZeroFirst();
        stillThere();
        crashIsFlushed();
        crashWithNothingToLose();
        afterTheLastCall();
        Check.finish();
    }

    /** Approvals 1, batch size 2: change 0 is under test, 1 queued, 2 open with one for it, 3 rejected. */
    private static GatedTrunk ready() {
        GatedTrunk x = new GatedTrunk(1, 2, 1, 3);
        for (int c = 0; c < 4; c++) {
            x.open();
            if (c == 3) {
                x.push(c, 0, 0);
            }
            x.approve(c, c);
        }
        x.enqueue(3);
        x.enqueue(0);
        x.enqueue(1);
        rejected(x, 3, 2);
        queueIs(x, 0, 1);
        x.flush();
        return x;
    }

    private static final String[] NAMES = {"open", "push", "approve", "object", "close", "enqueue", "rebase", "claim",
        "report passed", "report failed", "tick(1)", "tick(20)"};
    private static final Step[] EVENTS = {
        x -> x.open(), x -> x.push(2, 5, 5), x -> x.approve(2, 5), x -> x.object(2, 2), x -> x.close(3),
        x -> x.enqueue(2), x -> x.rebase(3), x -> x.claim(0), x -> x.report(3, true), x -> x.report(3, false),
        x -> x.tick(1), x -> x.tick(20)};

    /** The object before event i, all flushed. */
    private static GatedTrunk readyFor(int i) {
        GatedTrunk x = ready();
        if (NAMES[i].startsWith("report")) {
            x.claim(3);
            x.flush();
        }
        return x;
    }

    private static void eachKindIsOneEvent() {
        Check.part("events: every call that is not refused is one event");
        for (int i = 0; i < EVENTS.length; i++) {
            GatedTrunk x = readyFor(i);
            EVENTS[i].on(x);
            Check.due("flush after " + NAMES[i], 1, x.flush());
            GatedTrunk y = readyFor(i);
            EVENTS[i].on(y);
            Check.due("crash(0) after " + NAMES[i], 1, y.crash(0));
            GatedTrunk z = readyFor(i);
            EVENTS[i].on(z);
            Check.due("crash(1) after " + NAMES[i], 0, z.crash(1));
        }
    }

    private static void manyRejectionsAreOneEvent() {
        Check.part("events: what happens at the end of an event is no event");
        GatedTrunk x = withQueue(8, 0, 1);
        for (int c = 1; c < 16; c++) {
            queued(x, 0, 0);
        }
        x.claim(0);
        x.flush();
        x.report(0, true);
        for (int c = 1; c < 16; c++) {
            rejected(x, c, 2);
        }
        Check.due("flush", 1, x.flush());
    }

    private static void flushAndCrashAreNone() {
        Check.part("events: flush and crash are none");
        GatedTrunk x = new GatedTrunk(0, 1, 0, 1);
        x.open();
        Check.due("flush", 1, x.flush());
        Check.due("flush of a flush", 0, x.flush());
        Check.due("crash of a flush", 0, x.crash(0));
        Check.due("crash of a crash", 0, x.crash(0));
        Check.due("flush of a crash", 0, x.flush());
        // Fifteen events with flushes and crashes between them: none of these takes a place.
        for (int i = 0; i < 5; i++) {
            x.crash(0);
            x.flush();
        }
        for (int i = 0; i < 16; i++) {
            x.approve(0, 0);
        }
        Check.due("crash", 16, x.crash(0));
        Check.due("standing", 0, x.standing(0));
    }

    private static void looksAreNone() {
        Check.part("events: the calls of promises 14 to 21 are none");
        GatedTrunk x = ready();
        for (int i = 0; i < 3; i++) {
            looks(x, 4);
        }
        Check.due("flush", 0, x.flush());
        for (int i = 0; i < 16; i++) {
            x.approve(2, 3);
        }
        looks(x, 4);
        Check.due("crash", 16, x.crash(0));
        Check.due("standing", 1, x.standing(2));
    }

    private static void sixteenAndOneMore() {
        Check.part("events: when 16 are unflushed and one more happens, those become flushed first");
        int[][] rows = {{0, 0}, {1, 1}, {15, 15}, {16, 16}, {17, 1}, {18, 2}, {31, 15}, {32, 16}, {33, 1}, {48, 16}, {49, 1}};
        for (int[] row : rows) {
            GatedTrunk x = new GatedTrunk(0, 1, 0, 1);
            GatedTrunk y = new GatedTrunk(0, 1, 0, 1);
            for (int i = 0; i < row[0]; i++) {
                x.tick(1);
                y.tick(1);
            }
            Check.due("flush after " + row[0], row[1], x.flush());
            Check.due("crash after " + row[0], row[1], y.crash(0));
        }
    }

    private static void seventeenthFlushesSixteen() {
        Check.part("events: the 17th flushes the 16 before it, and not itself");
        GatedTrunk x = new GatedTrunk(0, 1, 0, 1);
        for (int c = 0; c < 15; c++) {
            x.open();
        }
        x.approve(0, 0);
        // Sixteen, and one more.
        x.approve(0, 1);
        Check.due("standing", 2, x.standing(0));
        Check.due("crash", 1, x.crash(0));
        Check.due("standing", 1, x.standing(0));
        stateIs(x, 14, 0);
        GatedTrunk y = new GatedTrunk(0, 1, 0, 1);
        for (int c = 0; c < 16; c++) {
            y.open();
        }
        Check.due("crash of sixteen", 16, y.crash(0));
        Check.due("state", -1, y.state(0));
    }

    private static void sixteenCountAgain() {
        Check.part("events: after a flush or a crash the 16 are counted anew");
        GatedTrunk x = new GatedTrunk(0, 1, 0, 1);
        for (int i = 0; i < 10; i++) {
            x.tick(1);
        }
        x.flush();
        for (int i = 0; i < 16; i++) {
            x.tick(1);
        }
        Check.due("crash", 9, x.crash(7));
        for (int i = 0; i < 16; i++) {
            x.tick(1);
        }
        Check.due("flush", 16, x.flush());
        for (int i = 0; i < 17; i++) {
            x.tick(1);
        }
        Check.due("crash", 1, x.crash(0));
        for (int i = 0; i < 16; i++) {
            x.tick(1);
        }
        Check.due("crash", 16, x.crash(0));
    }

    private static void flushOfNone() {
        Check.part("12 flush: answers how many those were");
        GatedTrunk x = new GatedTrunk(0, 1, 0, 1);
        Check.due("flush of none", 0, x.flush());
        x.open();
        Check.due("flush of one", 1, x.flush());
        Check.due("flush of none", 0, x.flush());
        Check.due("crash", 0, x.crash(0));
        stateIs(x, 0, 0);
        for (int i = 0; i < 16; i++) {
            x.approve(0, i % 8);
        }
        Check.due("flush of 16", 16, x.flush());
        Check.due("crash", 0, x.crash(0));
        Check.due("standing", 8, x.standing(0));
    }

    private static void surviveOfNone() {
        Check.part("13 crash: with no unflushed event");
        int[] rows = {LEAST, -1, 0, 1, 16, 17, MOST};
        for (int survive : rows) {
            GatedTrunk x = new GatedTrunk(0, 1, 0, 1);
            Check.due("crash(" + survive + ") of a new object", 0, x.crash(survive));
            treeIs(x, -1, 17, 0, 0, 0, 0, 0);
            Check.due("state", -1, x.state(0));
            GatedTrunk y = ready();
            String before = looks(y, 4);
            Check.due("crash(" + survive + ")", 0, y.crash(survive));
            Check.yes("all is as it was", before.equals(looks(y, 4)));
        }
    }

    private static void surviveOfSixteen() {
        Check.part("13 crash: the first so many of 16 survive");
        int[][] rows = {{LEAST, 0}, {-1, 0}, {0, 0}, {1, 1}, {2, 2}, {8, 8}, {15, 15}, {16, 16}, {17, 16}, {MOST, 16}};
        for (int[] row : rows) {
            GatedTrunk x = new GatedTrunk(0, 1, 0, 1);
            for (int c = 0; c < 16; c++) {
                x.open();
            }
            Check.due("crash(" + row[0] + ")", 16 - row[1], x.crash(row[0]));
            for (int c = 0; c < 16; c++) {
                Check.due("state(" + c + ")", c < row[1] ? 0 : -1, x.state(c));
            }
            Check.due("flush", 0, x.flush());
        }
    }

    private static void surviveOfOne() {
        Check.part("13 crash: none below 0, all above their number, when 16 are flushed and one is not");
        int[][] rows = {{LEAST, 0}, {-1, 0}, {0, 0}, {1, 1}, {2, 1}, {16, 1}, {17, 1}, {MOST, 1}};
        for (int[] row : rows) {
            GatedTrunk x = new GatedTrunk(0, 1, 0, 1);
            x.open();
            for (int i = 0; i < 15; i++) {
                x.approve(0, 0);
            }
            x.close(0);
            Check.due("crash(" + row[0] + ")", 1 - row[1], x.crash(row[0]));
            stateIs(x, 0, row[1] == 1 ? 4 : 0);
            Check.due("standing", 1, x.standing(0));
        }
    }

    private static void changesComeBack() {
        Check.part("13 crash: all is as it was, of each kind of event");
        // A claim's lease and what a report ended do not come back like this: they have tests of their own.
        for (int i = 0; i < EVENTS.length; i++) {
            if (NAMES[i].equals("claim") || NAMES[i].startsWith("report")) {
                continue;
            }
            GatedTrunk x = readyFor(i);
            String before = looks(x, 5);
            EVENTS[i].on(x);
            String after = looks(x, 5);
            // The time can't be seen as long as there is no lease.
            boolean isTick = NAMES[i].startsWith("tick");
            Check.due(NAMES[i] + " is not seen", isTick ? 1 : 0, before.equals(after) ? 1 : 0);
            x.crash(0);
            Check.yes(NAMES[i] + " did not survive", before.equals(looks(x, 5)));
            GatedTrunk y = readyFor(i);
            EVENTS[i].on(y);
            y.crash(1);
            Check.yes(NAMES[i] + " survived", after.equals(looks(y, 5)));
        }
        GatedTrunk z = ready();
        z.approve(2, 7);
        z.object(2, 2);
        z.approve(2, 2);
        z.crash(2);
        Check.due("standing by the first two", 11, z.standing(2));
    }

    private static void lostNumbersAreGivenAgain() {
        Check.part("13 crash: a change that was lost is not there");
        GatedTrunk x = new GatedTrunk(0, 1, 0, 1);
        x.open();
        x.flush();
        queued(x, 1, 5);
        x.open();
        x.approve(2, 2);
        Check.due("crash", 5, x.crash(0));
        Check.due("state", -1, x.state(1));
        Check.due("cause", -1, x.cause(1));
        Check.due("standing", -1, x.standing(2));
        Check.due("file", 0, x.file(1, 1));
        queueIs(x);
        Check.due("open", 1, x.open());
        treeIs(x, 1, 17, 0, 0, 0, 0, 0);
        Check.due("open", 2, x.open());
        Check.due("standing", 0, x.standing(2));
        stateIs(x, 2, 0);
        // All 16 are there, and the last is lost: there is room for one.
        GatedTrunk y = new GatedTrunk(0, 1, 0, 1);
        for (int c = 0; c < 16; c++) {
            y.open();
        }
        Check.due("open", -1, y.open());
        Check.due("crash", 1, y.crash(15));
        Check.due("open", 15, y.open());
        Check.due("open", -1, y.open());
    }

    private static void baseComesBack() {
        Check.part("13 crash: a base is as it was before a rebase that is lost");
        GatedTrunk x = new GatedTrunk(0, 1, 0, 1);
        opened(x, 2, 8);
        queued(x, 1, 5);
        run(x, 0, 0, true);
        x.flush();
        Check.yes("rebase", x.rebase(0));
        treeIs(x, 0, 17, 5, 8, 0, 0, 0);
        x.push(0, 1, 6);
        Check.due("crash", 2, x.crash(0));
        treeIs(x, 0, 17, 0, 8, 0, 0, 0);
        // From 0 to 6 where the trunk has 5: it would be from 5 to 6 with the base of the rebase.
        x.push(0, 1, 6);
        Check.no("rebase", x.rebase(0));
        x.push(0, 1, 0);
        Check.yes("rebase", x.rebase(0));
        x.push(0, 1, 6);
        Check.due("crash with the rebase kept", 0, x.crash(16));
        Check.yes("rebase", x.rebase(0));
        treeIs(x, 0, 17, 6, 8, 0, 0, 0);
    }

    private static void passedBatchComesBack() {
        Check.part("13 crash: a batch that passed is under test again");
        GatedTrunk x = withQueue(2, 1, 1);
        queued(x, 1, 5);
        queued(x, 2, 6);
        x.enqueue(x.open());
        run(x, 0, 0, true);
        x.flush();
        run(x, 0, 0, true);
        Check.due("version", 2, x.version());
        treeIs(x, -1, 17, 5, 6, 0, 0, 0);
        queueIs(x, 3);
        Check.due("crash", 2, x.crash(0));
        Check.due("version", 1, x.version());
        treeIs(x, -1, 17, 0, 0, 0, 0, 0);
        treeIs(x, -2, 17, 5, 6, 0, 0, 0);
        queueIs(x, 1, 2, 3);
        Check.due("batch", 2, x.batch());
        stateIs(x, 1, 1);
        stateIs(x, 2, 1);
        jobsAre(x, 1, 0, 0, 0);
        run(x, 0, 0, true);
        Check.due("crash of none", 0, x.crash(2));
        Check.due("version", 2, x.version());
        stateIs(x, 2, 2);
        queueIs(x, 3);
    }

    private static void failedBatchComesBack() {
        Check.part("13 crash: a change that was rejected is queued again");
        GatedTrunk x = withQueue(1, 0, 2);
        x.flush();
        run(x, 0, 0, false);
        rejected(x, 0, 10);
        x.rebase(0);
        x.close(0);
        // The claim and the failure survive, the rebase and the close do not.
        Check.due("crash", 2, x.crash(2));
        rejected(x, 0, 10);
        queueIs(x, 1);
        GatedTrunk y = withQueue(1, 0, 2);
        y.flush();
        run(y, 0, 0, false);
        Check.due("crash", 2, y.crash(0));
        stateIs(y, 0, 1);
        queueIs(y, 0, 1);
        jobsAre(y, 1, 0, 0, 0);
    }

    private static void conflictComesBack() {
        Check.part("13 crash: a change that conflicted is queued again");
        GatedTrunk x = new GatedTrunk(0, 2, 1, 1);
        queued(x, 1, 1);
        queued(x, 1, 2);
        queued(x, 2, 3);
        x.flush();
        run(x, 0, 0, true);
        rejected(x, 1, 1);
        queueIs(x, 2);
        Check.due("crash", 2, x.crash(0));
        stateIs(x, 1, 1);
        queueIs(x, 0, 1, 2);
        treeIs(x, -2, 17, 1, 0, 0, 0, 0);
        treeIs(x, -1, 17, 0, 0, 0, 0, 0);
        run(x, 0, 0, true);
        Check.due("crash", 0, x.crash(2));
        rejected(x, 1, 1);
        queueIs(x, 2);
    }

    private static void planComesBack() {
        Check.part("13 crash: the plan is as it was");
        GatedTrunk x = withQueue(4, 2, 8);
        run(x, 0, 0, true);
        Check.due("batch", 4, x.batch());
        x.flush();
        // The halves do not survive: 4 it is again, and the next four are not cut short.
        run(x, 0, 0, false);
        Check.due("batch", 2, x.batch());
        Check.due("crash", 2, x.crash(0));
        Check.due("batch", 4, x.batch());
        run(x, 0, 0, true);
        Check.due("batch of the rest", 3, x.batch());
        // The halves survive, though what came after them does not.
        GatedTrunk y = withQueue(4, 2, 8);
        run(y, 0, 0, true);
        run(y, 0, 0, false);
        y.flush();
        run(y, 0, 0, false);
        run(y, 0, 0, true);
        run(y, 0, 0, true);
        Check.due("the second half", 2, y.batch());
        queueIs(y, 3, 4, 5, 6, 7);
        Check.due("crash", 6, y.crash(0));
        Check.due("the first half", 2, y.batch());
        queueIs(y, 1, 2, 3, 4, 5, 6, 7);
        run(y, 0, 0, true);
        Check.due("the second half", 2, y.batch());
        run(y, 0, 0, true);
        Check.due("a new number", 3, y.batch());
    }

    private static void jobsComeBack() {
        Check.part("13 crash: what jobs have PASSED and FAILED is as it was");
        GatedTrunk x = underTest(15 | 128, 2, 9);
        run(x, 0, 0, true);
        run(x, 0, 1, false);
        x.flush();
        run(x, 0, 2, true);
        jobsAre(x, 2, 3, 2, 1);
        Check.due("crash", 2, x.crash(0));
        jobsAre(x, 2, 3, 1, 1);
        run(x, 0, 2, false);
        run(x, 1, 3, true);
        Check.due("version", 1, x.version());
        // The claim of job 3 is the third event: it survives, its report does not.
        Check.due("crash", 1, x.crash(3));
        jobsAre(x, 2, 3, 3, 1);
        Check.due("version", 0, x.version());
        Check.due("batch", 1, x.batch());
    }

    private static void expiredLeaseComesBack() {
        Check.part("13 crash: a lease that ended in an event that is lost expires again");
        GatedTrunk x = underTest(FOUR, 0, 9);
        x.claim(2);
        x.flush();
        x.report(2, true);
        jobsAre(x, 2, 1, 1, 1);
        // The report is lost, so worker 2 has its only attempt's lease yet, and that expires.
        Check.due("crash", 1, x.crash(0));
        rejected(x, 0, 10);
        GatedTrunk y = underTest(FOUR, 1, 9);
        y.claim(2);
        y.flush();
        y.tick(9);
        Check.due("crash", 1, y.crash(0));
        jobsAre(y, 1, 1, 1, 1);
        y.claim(2);
        Check.due("the second attempt is the last", 0, y.crash(1));
        rejected(y, 0, 10);
    }

    private static void leasesDoNotComeBack() {
        Check.part("13 crash: all leases expire");
        GatedTrunk x = underTest(FOUR, 2, 9);
        for (int w = 0; w < 4; w++) {
            x.claim(w);
        }
        jobsAre(x, 10, 11, 12, 13);
        Check.due("crash that loses nothing", 0, x.crash(16));
        jobsAre(x, 1, 1, 1, 1);
        for (int w = 0; w < 4; w++) {
            Check.no("report", x.report(w, true));
        }
        Check.due("tick at the leases' end", 0, x.tick(9));
        for (int w = 3; w >= 0; w--) {
            Check.due("claim", 3 - w, x.claim(w));
        }
        x.flush();
        Check.due("crash with the leases flushed", 0, x.crash(0));
        jobsAre(x, 1, 1, 1, 1);
        Check.due("tick at the leases' end", 0, x.tick(9));
        Check.due("claim", 0, x.claim(0));
    }

    private static void attemptsCount() {
        Check.part("13 crash: the attempts of the jobs whose leases expire count");
        for (int retries = 0; retries < 3; retries++) {
            GatedTrunk x = underTest(15 | 128, retries, 9);
            for (int attempt = 0; attempt <= retries; attempt++) {
                jobsAre(x, 1, 1, 1, 1);
                Check.due("claim", 0, x.claim(attempt));
                if (attempt == 1) {
                    x.flush();
                }
                Check.due("crash", 0, x.crash(16));
            }
            jobsAre(x, 3, 1, 1, 1);
            stateIs(x, 0, 1);
        }
        // One attempt by a crash, one by a tick, and one by a crash.
        GatedTrunk y = underTest(17, 2, 3);
        y.claim(0);
        y.crash(16);
        y.claim(1);
        Check.due("tick", 1, y.tick(3));
        jobsAre(y, 1, 0, 0, 0);
        y.claim(2);
        y.crash(16);
        rejected(y, 0, 10);
    }

    private static void lostClaimsAreNoAttempts() {
        Check.part("13 crash: a claim that does not survive is no attempt");
        GatedTrunk x = underTest(17, 0, 3);
        x.flush();
        for (int i = 0; i < 5; i++) {
            Check.due("claim", 0, x.claim(1));
            Check.due("crash", 1, x.crash(0));
            jobsAre(x, 1, 0, 0, 0);
        }
        run(x, 1, 0, true);
        Check.due("version", 1, x.version());
    }

    private static void survivingTicks() {
        Check.part("13 crash: leases that expired by a tick that survives");
        GatedTrunk x = underTest(17, 2, 5);
        x.claim(0);
        x.flush();
        Check.due("tick", 0, x.tick(4));
        Check.due("tick", 1, x.tick(1));
        Check.due("claim by the same worker, until 10", 0, x.claim(0));
        Check.due("tick", 0, x.tick(4));
        // Two attempts: the first expired at time 5, the second by the crash.
        Check.due("crash", 1, x.crash(3));
        jobsAre(x, 1, 0, 0, 0);
        Check.due("claim", 0, x.claim(0));
        Check.due("the third", 1, x.tick(5));
        rejected(x, 0, 10);
    }

    private static void crashFailsABatch() {
        Check.part("13 crash: if that makes a batch fail the next one is built");
        GatedTrunk x = withQueue(3, 0, 4);
        run(x, 0, 0, true);
        Check.due("batch", 3, x.batch());
        x.claim(0);
        Check.due("crash", 0, x.crash(16));
        Check.due("batch", 2, x.batch());
        queueIs(x, 1, 2, 3);
        jobsAre(x, 1, 0, 0, 0);
        x.claim(0);
        Check.due("crash", 0, x.crash(1));
        Check.due("batch", 1, x.batch());
        x.claim(0);
        Check.due("crash", 0, x.crash(1));
        rejected(x, 1, 10);
        queueIs(x, 2, 3);
        Check.due("batch", 1, x.batch());
        // The last of the queue fails by a crash: there is none to be built.
        GatedTrunk y = withQueue(1, 0, 1);
        y.claim(3);
        y.crash(16);
        rejected(y, 0, 10);
        Check.due("batch", 0, y.batch());
        queueIs(y);
    }

    private static void crashFailsAJob() {
        Check.part("13 crash: what needs a job that FAILED by a crash is FAILED too");
        GatedTrunk x = underTest(15 | 128 | needs(1, 0) | needs(2, 1), 0, 9);
        Check.due("claim", 0, x.claim(1));
        x.crash(16);
        jobsAre(x, 3, 3, 3, 1);
        run(x, 0, 3, true);
        Check.due("version", 1, x.version());
    }

    private static void workerZeroFirst() {
        Check.part("13 crash: the lease of worker 0 first, and so on");
        GatedTrunk x = underTest(FOUR, 0, 9);
        for (int w = 3; w >= 0; w--) {
            x.claim(w);
        }
        jobsAre(x, 13, 12, 11, 10);
        x.crash(16);
        rejected(x, 0, 13);
        GatedTrunk y = underTest(FOUR, 0, 9);
        y.claim(3);
        y.claim(1);
        y.claim(2);
        y.crash(16);
        rejected(y, 0, 11);
    }

    private static void stillThere() {
        Check.part("13 crash: those that are still there when it is their turn");
        GatedTrunk x = new GatedTrunk(0, 2, 0, 9);
        x.enqueue(x.open());
        queued(x, 0, FOUR);
        x.enqueue(x.open());
        run(x, 0, 0, true);
        for (int w = 0; w < 4; w++) {
            x.claim(w);
        }
        Check.due("batch", 2, x.batch());
        x.crash(16);
        // Worker 0's job fails the batch of 2 once: had the others' failed too, change 1 were rejected.
        Check.due("batch", 1, x.batch());
        stateIs(x, 1, 1);
        jobsAre(x, 1, 1, 1, 1);
        queueIs(x, 1, 2);
    }

    private static void crashIsFlushed() {
        Check.part("13 crash: all that is flushed then");
        GatedTrunk x = underTest(17, 0, 9);
        x.claim(0);
        Check.due("crash", 2, x.crash(2));
        stateIs(x, 0, 0);
        Check.due("flush", 0, x.flush());
        Check.due("crash", 0, x.crash(0));
        stateIs(x, 0, 0);
        GatedTrunk y = underTest(17, 0, 9);
        y.claim(0);
        Check.due("crash", 0, y.crash(4));
        rejected(y, 0, 10);
        y.rebase(0);
        y.enqueue(0);
        Check.due("crash", 2, y.crash(0));
        // What the crash itself did is not undone by the next.
        rejected(y, 0, 10);
        Check.due("crash", 0, y.crash(0));
        rejected(y, 0, 10);
    }

    private static void crashWithNothingToLose() {
        Check.part("13 crash: the leases expire though no event is unflushed");
        GatedTrunk x = underTest(17, 1, 9);
        x.claim(2);
        x.flush();
        Check.due("crash", 0, x.crash(0));
        jobsAre(x, 1, 0, 0, 0);
        x.claim(2);
        x.flush();
        Check.due("crash", 0, x.crash(MOST));
        rejected(x, 0, 10);
    }

    private static void afterTheLastCall() {
        Check.part("an object is used for at most 512 calls");
        GatedTrunk x = new GatedTrunk(0, 8, 2, 9);
        x.open();
        for (int i = 0; i < 510; i++) {
            x.approve(0, i % 8);
        }
        // 511 calls are 31 times 16 and 15 more.
        Check.due("crash as the 512th call", 15, x.crash(0));
        GatedTrunk y = new GatedTrunk(0, 8, 2, 9);
        y.open();
        for (int i = 0; i < 507; i++) {
            y.tick(20);
        }
        y.enqueue(0);
        run(y, 3, 0, true);
        Check.due("version as the 512th call", 1, y.version());
    }
}
