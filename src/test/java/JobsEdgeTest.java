/** The edges of "Jobs", workers, leases and the time, and of promises 9 to 11. */
public final class JobsEdgeTest extends Steps {
    /** Job 3 alone is required, jobs 0, 1 and 2 are there. */
    private static final int LAST_REQUIRED = 15 | 128;

    public static void main(String[] args) {
        workersOfClaim();
        workersOfReport();
        oneLeaseEach();
        noBatch();
        leastThatWaits();
        allNeedsPassed();
        leaseLasts();
        leaseCountsFromItsClaim();
        lengthsOfTicks();
        ticksOneByOne();
        expiredNoneToFour();
        expiredAtDifferentTimes();
        workerZeroFirst();
        stillThere();
        nextIsBuilt();
        retries();
        attemptsOfEachJob();
        attemptsThatEndWell();
        reportOfTheLease();
        reportFailsAtOnce();
        neededFails();
        leastCause();
        notRequiredFails();
        passesWithoutTheRest();
        leasesEndWhenItPasses();
        leasesEndWhenItFails();
        Check.finish();
    }

    private static final int[] NO_WORKERS = {LEAST, -4, -1, 4, 5, MOST};

    private static void workersOfClaim() {
        Check.part("9 claim: the workers are 0 .. 3");
        GatedTrunk x = underTest(FOUR, 0, 9);
        for (int w : NO_WORKERS) {
            Check.due("claim by " + w, -1, x.claim(w));
        }
        jobsAre(x, 1, 1, 1, 1);
        Check.due("claim by 0", 0, x.claim(0));
        Check.due("claim by 3", 1, x.claim(3));
        jobsAre(x, 10, 13, 1, 1);
        for (int w : NO_WORKERS) {
            Check.due("claim by " + w, -1, x.claim(w));
        }
    }

    private static void workersOfReport() {
        Check.part("10 report: the workers are 0 .. 3");
        GatedTrunk x = underTest(FOUR, 0, 9);
        x.claim(0);
        x.claim(3);
        for (int w : NO_WORKERS) {
            Check.no("passed, by " + w, x.report(w, true));
            Check.no("failed, by " + w, x.report(w, false));
        }
        jobsAre(x, 10, 13, 1, 1);
        Check.yes("report by 0", x.report(0, true));
        Check.yes("report by 3", x.report(3, true));
        jobsAre(x, 2, 2, 1, 1);
    }

    private static void oneLeaseEach() {
        Check.part("9 claim: refused when w has a lease");
        GatedTrunk x = underTest(FOUR, 0, 9);
        for (int w = 0; w < 4; w++) {
            Check.due("claim", w, x.claim(w));
            Check.due("claim again", -1, x.claim(w));
        }
        jobsAre(x, 10, 11, 12, 13);
        Check.yes("report", x.report(2, true));
        Check.due("no job waits", -1, x.claim(2));
        jobsAre(x, 10, 11, 2, 13);
        // Where one waits, it is the lease alone that refuses.
        GatedTrunk y = underTest(FOUR, 0, 9);
        y.claim(1);
        Check.due("has a lease", -1, y.claim(1));
        y.report(1, true);
        Check.due("has none any more", 1, y.claim(1));
    }

    private static void noBatch() {
        Check.part("9 and 10: refused when no batch is under test");
        GatedTrunk x = new GatedTrunk(0, 1, 0, 9);
        for (int w = 0; w < 4; w++) {
            Check.due("claim", -1, x.claim(w));
            Check.no("report", x.report(w, true));
        }
        x.enqueue(x.open());
        run(x, 1, 0, true);
        for (int w = 0; w < 4; w++) {
            Check.due("claim", -1, x.claim(w));
            Check.no("report", x.report(w, false));
        }
        Check.due("version", 1, x.version());
    }

    private static void leastThatWaits() {
        Check.part("9 claim: the job with the least number that is WAITING");
        GatedTrunk x = underTest(FOUR, 2, 2);
        Check.due("all wait", 0, x.claim(3));
        Check.due("0 is leased", 1, x.claim(2));
        Check.yes("report", x.report(2, true));
        x.tick(1);
        Check.due("1 is passed", 2, x.claim(2));
        Check.due("0 expires", 1, x.tick(1));
        Check.due("0 waits again", 0, x.claim(0));
        Check.due("3 is left", 3, x.claim(1));
        Check.due("none waits", -1, x.claim(3));
        jobsAre(x, 10, 2, 12, 11);
    }

    private static void allNeedsPassed() {
        Check.part("9 claim: all of whose needs are PASSED");
        GatedTrunk x = underTest(FOUR | needs(0, 1) | needs(0, 2) | needs(0, 3), 1, 9);
        Check.due("claim", 1, x.claim(0));
        Check.due("claim", 2, x.claim(1));
        Check.due("claim", 3, x.claim(2));
        Check.due("needs are leased", -1, x.claim(3));
        x.report(0, true);
        Check.due("one of three passed", -1, x.claim(3));
        x.report(2, true);
        Check.due("two of three passed", -1, x.claim(3));
        Check.due("the third expires", 1, x.tick(9));
        Check.due("the third waits", 2, x.claim(3));
        x.report(3, true);
        Check.due("all passed", 0, x.claim(3));
    }

    private static void leaseLasts() {
        Check.part("9 claim: the lease lasts until the time when lease ticks have passed");
        for (int lease = 1; lease < 10; lease++) {
            GatedTrunk x = underTest(17, 0, lease);
            x.claim(2);
            if (lease > 1) {
                Check.due("tick of one less than " + lease, 0, x.tick(lease - 1));
            }
            Check.due("job", 12, x.job(0));
            Check.due("the last tick of " + lease, 1, x.tick(1));
            rejected(x, 0, 10);
            GatedTrunk y = underTest(17, 0, lease);
            y.claim(2);
            ticks(y, lease - 1);
            Check.yes("report before the last tick of " + lease, y.report(2, true));
            Check.due("version", 1, y.version());
        }
    }

    private static void leaseCountsFromItsClaim() {
        Check.part("9 claim: a lease counts from its own claim");
        GatedTrunk x = underTest(FOUR, 2, 9);
        x.tick(20);
        x.tick(7);
        x.claim(1);
        Check.due("tick", 0, x.tick(8));
        x.report(1, true);
        // Another lease of the same worker: nothing of the first one is left.
        Check.due("claim", 1, x.claim(1));
        Check.due("tick", 0, x.tick(8));
        Check.due("tick", 1, x.tick(1));
        Check.due("claim", 1, x.claim(3));
        Check.due("tick", 0, x.tick(8));
        Check.due("tick", 1, x.tick(1));
        jobsAre(x, 2, 1, 1, 1);
    }

    private static void lengthsOfTicks() {
        Check.part("11 tick: refused when n is not 1 .. 20");
        int[] refused = {LEAST, -20, -1, 0, 21, 22, MOST};
        GatedTrunk x = underTest(17, 2, 1);
        for (int n : refused) {
            x.claim(0);
            Check.due("tick(" + n + ")", -1, x.tick(n));
            Check.due("job", 10, x.job(0));
        }
        Check.due("tick(1)", 1, x.tick(1));
        x.claim(0);
        Check.due("tick(20)", 1, x.tick(20));
        Check.due("tick(20) with no lease", 0, x.tick(20));
        Check.due("tick(1) with no lease", 0, x.tick(1));
    }

    private static void ticksOneByOne() {
        Check.part("11 tick: n times the time grows by 1");
        for (int n = 1; n < 10; n++) {
            GatedTrunk x = underTest(17, 2, 9);
            x.claim(0);
            Check.due("tick(" + n + ")", n == 9 ? 1 : 0, x.tick(n));
            if (n < 9) {
                ticks(x, 8 - n);
                Check.due("the ninth", 1, x.tick(1));
            }
        }
        GatedTrunk y = underTest(17, 2, 9);
        y.claim(0);
        Check.due("tick(10) goes past its end", 1, y.tick(10));
    }

    private static void expiredNoneToFour() {
        Check.part("11 tick: answers how many leases expired");
        for (int leases = 0; leases < 5; leases++) {
            GatedTrunk x = underTest(FOUR, 1, 3);
            for (int w = 0; w < leases; w++) {
                x.claim(3 - w);
            }
            Check.due("tick(3) with " + leases, leases, x.tick(3));
            jobsAre(x, 1, 1, 1, 1);
            Check.due("tick(20) with none", 0, x.tick(20));
        }
    }

    private static void expiredAtDifferentTimes() {
        Check.part("11 tick: leases that expire at different times of one call");
        GatedTrunk x = underTest(FOUR, 1, 9);
        for (int w = 3; w >= 0; w--) {
            x.claim(w);
            x.tick(1);
        }
        // Claimed at 0, 1, 2, 3, it is 4 now: they last until 9, 10, 11, 12.
        Check.due("until 8", 0, x.tick(4));
        Check.due("until 10", 2, x.tick(2));
        jobsAre(x, 1, 1, 11, 10);
        Check.due("until 30", 2, x.tick(20));
        jobsAre(x, 1, 1, 1, 1);
    }

    private static void workerZeroFirst() {
        Check.part("11 tick: that of worker 0 first, then that of worker 1, and so on");
        // In the first row worker 0 has job 3, worker 1 job 2, and so on.
        int[][] rows = {{3, 2, 1, 0}, {0, 1, 2, 3}, {1, 3, 0, 2}, {2, 0, 3, 1}};
        int[] causes = {13, 10, 11, 12};
        for (int i = 0; i < 4; i++) {
            GatedTrunk x = underTest(FOUR, 0, 5);
            for (int job = 0; job < 4; job++) {
                for (int w = 0; w < 4; w++) {
                    if (rows[i][w] == job) {
                        Check.due("claim", job, x.claim(w));
                    }
                }
            }
            Check.due("tick", 1, x.tick(5));
            rejected(x, 0, causes[i]);
        }
        // Without worker 0 it is worker 1 that is the first.
        GatedTrunk y = underTest(FOUR, 0, 5);
        y.claim(3);
        y.claim(1);
        y.claim(2);
        y.tick(5);
        rejected(y, 0, 11);
    }

    private static void stillThere() {
        Check.part("11 tick: those that are still there when it is their turn");
        GatedTrunk x = underTest(LAST_REQUIRED, 0, 5);
        for (int w = 0; w < 4; w++) {
            Check.due("claim", w, x.claim(w));
        }
        // Jobs 0, 1 and 2 fail and end nothing; job 3 is the last one to expire.
        Check.due("all four", 4, x.tick(5));
        rejected(x, 0, 13);
        GatedTrunk y = underTest(LAST_REQUIRED, 0, 5);
        Check.due("claim", 0, y.claim(0));
        Check.due("claim", 1, y.claim(2));
        Check.due("claim", 2, y.claim(3));
        Check.due("claim", 3, y.claim(1));
        // Worker 1's job 3 ends the batch, and with it the leases of workers 2 and 3.
        Check.due("two of four", 2, y.tick(5));
        rejected(y, 0, 13);
        Check.no("report", y.report(2, true));
        Check.no("report", y.report(3, true));
    }

    private static void nextIsBuilt() {
        Check.part("11 tick: the next batch is built, its jobs wait");
        GatedTrunk x = new GatedTrunk(0, 2, 0, 4);
        for (int c = 0; c < 3; c++) {
            queued(x, 1 + c, 7);
        }
        run(x, 0, 0, true);
        x.claim(1);
        x.flush();
        Check.due("tick", 1, x.tick(20));
        Check.due("flush: one event", 1, x.flush());
        Check.due("batch", 1, x.batch());
        treeIs(x, -2, 17, 7, 7, 0, 0, 0);
        jobsAre(x, 1, 0, 0, 0);
        queueIs(x, 1, 2);
        x.claim(1);
        Check.due("tick", 0, x.tick(3));
        Check.due("tick", 1, x.tick(1));
        rejected(x, 1, 10);
        queueIs(x, 2);
        treeIs(x, -2, 17, 7, 0, 7, 0, 0);
    }

    private static void retries() {
        Check.part("jobs: WAITING again, or FAILED after as many attempts as the retries and 1");
        for (int retries = 0; retries < 3; retries++) {
            GatedTrunk x = underTest(LAST_REQUIRED, retries, 1);
            for (int attempt = 0; attempt <= retries; attempt++) {
                jobsAre(x, 1, 1, 1, 1);
                // By another worker each time: it is the job that has had the attempts.
                Check.due("claim", 0, x.claim(attempt));
                Check.due("tick", 1, x.tick(1));
            }
            jobsAre(x, 3, 1, 1, 1);
            Check.due("claim of the next", 1, x.claim(0));
        }
    }

    private static void attemptsOfEachJob() {
        Check.part("jobs: each has its own attempts");
        GatedTrunk x = underTest(LAST_REQUIRED, 1, 1);
        x.claim(0);
        x.tick(1);
        x.claim(0);
        x.claim(1);
        jobsAre(x, 10, 11, 1, 1);
        x.tick(1);
        jobsAre(x, 3, 1, 1, 1);
        Check.due("claim", 1, x.claim(0));
        x.tick(1);
        jobsAre(x, 3, 3, 1, 1);
    }

    private static void attemptsThatEndWell() {
        Check.part("jobs: the last attempt may pass");
        GatedTrunk x = underTest(17, 2, 1);
        for (int i = 0; i < 2; i++) {
            x.claim(0);
            Check.due("tick", 1, x.tick(1));
        }
        run(x, 0, 0, true);
        Check.due("version", 1, x.version());
    }

    private static void reportOfTheLease() {
        Check.part("10 report: refused when w has no lease");
        GatedTrunk x = underTest(FOUR, 1, 2);
        Check.no("none yet", x.report(1, true));
        x.claim(1);
        Check.no("another's", x.report(0, true));
        Check.yes("its own", x.report(1, true));
        Check.no("reported already", x.report(1, false));
        jobsAre(x, 2, 1, 1, 1);
        x.claim(1);
        x.tick(2);
        Check.no("expired", x.report(1, true));
        jobsAre(x, 2, 1, 1, 1);
        x.claim(1);
        x.claim(2);
        x.report(1, false);
        Check.no("ended with the batch", x.report(2, true));
        rejected(x, 0, 11);
    }

    private static void reportFailsAtOnce() {
        Check.part("10 report: FAILED, whatever the retries");
        GatedTrunk x = underTest(LAST_REQUIRED, 2, 9);
        run(x, 0, 0, false);
        jobsAre(x, 3, 1, 1, 1);
        Check.due("claim", 1, x.claim(0));
        run(x, 1, 2, false);
        run(x, 1, 3, false);
        rejected(x, 0, 13);
    }

    private static void neededFails() {
        Check.part("jobs: all that need a FAILED one, directly or by way of others, are FAILED too");
        // 1 needs 0, 2 needs 1; job 3 is required and needs none of them.
        GatedTrunk x = underTest(LAST_REQUIRED | needs(1, 0) | needs(2, 1), 0, 9);
        Check.due("claim", 0, x.claim(0));
        Check.due("claim", 3, x.claim(1));
        x.report(0, false);
        jobsAre(x, 3, 3, 3, 11);
        Check.due("claim of what failed", -1, x.claim(0));
        x.report(1, true);
        Check.due("version", 1, x.version());
        // Against the numbers' order: 0 needs 1, 1 needs 2, and 2 expires; needs that passed stay.
        GatedTrunk y = underTest(LAST_REQUIRED | needs(0, 1) | needs(1, 2), 0, 2);
        y.claim(0);
        Check.due("tick", 1, y.tick(2));
        jobsAre(y, 3, 3, 3, 1);
        GatedTrunk z = underTest(LAST_REQUIRED | needs(1, 0) | needs(2, 1), 0, 9);
        run(z, 0, 0, true);
        run(z, 0, 1, false);
        jobsAre(z, 2, 3, 3, 1);
    }

    private static void leastCause() {
        Check.part("jobs: the cause is 10 + the least number of a required job that FAILED");
        int[] causes = {10, 11, 12, 13};
        for (int j = 0; j < 4; j++) {
            GatedTrunk x = underTest(FOUR, 0, 9);
            for (int w = 0; w <= j; w++) {
                x.claim(w);
            }
            x.report(j, false);
            rejected(x, 0, causes[j]);
        }
        // Job 3 fails and takes along 0, 1 and 2, all of them, two and one of which are required.
        int all = needs(0, 1) | needs(1, 2) | needs(2, 3);
        int[] required = {0xF0, 0xE0, 0xA0, 0xC0, 0x80, 0x40, 0x20};
        int[] least = {10, 11, 11, 12, 13, 12, 11};
        for (int i = 0; i < required.length; i++) {
            GatedTrunk x = underTest(15 | required[i] | all, 0, 9);
            run(x, 0, 3, false);
            rejected(x, 0, least[i]);
        }
    }

    private static void notRequiredFails() {
        Check.part("jobs: a job that is not required FAILED, and the batch goes on");
        GatedTrunk x = underTest(LAST_REQUIRED, 0, 9);
        for (int j = 0; j < 3; j++) {
            run(x, 0, j, false);
            Check.due("batch", 1, x.batch());
        }
        jobsAre(x, 3, 3, 3, 1);
        run(x, 0, 3, true);
        stateIs(x, 0, 2);
        Check.due("version", 1, x.version());
    }

    private static void passesWithoutTheRest() {
        Check.part("jobs: it passes when all required jobs are PASSED");
        // Jobs 0 and 2 are required; 1 waits for 3, which is leased.
        GatedTrunk x = underTest(15 | 16 | 64 | needs(1, 3), 0, 9);
        Check.due("claim", 0, x.claim(0));
        Check.due("claim", 2, x.claim(1));
        Check.due("claim", 3, x.claim(2));
        x.report(0, true);
        Check.due("version", 0, x.version());
        x.report(1, true);
        Check.due("version", 1, x.version());
        stateIs(x, 0, 2);
        Check.due("batch", 0, x.batch());
        // A job that is not required passes, and nothing comes of it.
        GatedTrunk y = underTest(LAST_REQUIRED, 0, 9);
        for (int j = 0; j < 3; j++) {
            run(y, 0, j, true);
        }
        Check.due("version", 0, y.version());
        jobsAre(y, 2, 2, 2, 1);
    }

    /** A first batch with this pipeline, four workers at its jobs, and a second one behind it. */
    private static GatedTrunk fourLeases(int pipeline) {
        GatedTrunk x = new GatedTrunk(0, 1, 0, 5);
        queued(x, 0, pipeline);
        x.enqueue(x.open());
        for (int w = 0; w < 4; w++) {
            Check.due("claim", w, x.claim(w));
        }
        return x;
    }

    private static void leasesEndWhenItPasses() {
        Check.part("jobs: all leases end when the batch passes");
        GatedTrunk x = fourLeases(LAST_REQUIRED);
        x.report(3, true);
        Check.due("version", 1, x.version());
        // Change 1 has nothing of its own: the trunk's four jobs wait for it.
        jobsAre(x, 1, 1, 1, 1);
        for (int w = 0; w < 4; w++) {
            Check.no("report", x.report(w, false));
        }
        x.tick(4);
        Check.due("claim", 0, x.claim(2));
        Check.due("tick at the first leases' end", 0, x.tick(1));
        Check.due("tick", 0, x.tick(3));
        Check.due("tick at the new lease's end", 1, x.tick(1));
        jobsAre(x, 3, 1, 1, 1);
    }

    private static void leasesEndWhenItFails() {
        Check.part("jobs: all leases end when the batch fails");
        GatedTrunk x = fourLeases(FOUR);
        x.report(3, false);
        rejected(x, 0, 13);
        jobsAre(x, 1, 0, 0, 0);
        for (int w = 0; w < 4; w++) {
            Check.no("report", x.report(w, true));
        }
        Check.due("claim by one whose lease ended", 0, x.claim(1));
        Check.due("no other job", -1, x.claim(0));
        Check.yes("report", x.report(1, true));
        Check.due("version", 1, x.version());
    }
}
