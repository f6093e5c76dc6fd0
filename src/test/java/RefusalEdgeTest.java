/** "A call that is refused changes nothing", and is no event: of each call, for each of its reasons. */
public final class RefusalEdgeTest extends Steps {
    /** A call, and whether it was refused. */
    private interface Refused {
        boolean by(GatedTrunk x);
    }

    private static final int[] NO_CHANGES = {LEAST, -1, 16, MOST};
    private static final int MERGED = 0;
    private static final int CONFLICTING = 1;
    private static final int REJECTED_BY_CONFLICT = 2;
    private static final int CLOSED = 3;
    private static final int REJECTED_BY_PIPELINE = 4;
    private static final int OBJECTED = 5;
    private static final int WITHOUT_REVIEWERS = 6;
    private static final int UNDER_TEST = 7;
    private static final int QUEUED = 8;

    public static void main(String[] args) {
        theScene();
        refusedOpen();
        refusedPush();
        refusedApprove();
        refusedObject();
        refusedClose();
        refusedEnqueue();
        refusedRebase();
        refusedClaim();
        refusedReport();
        refusedTick();
        refusedWithNoBatch();
        refusedByANewObject();
        Check.finish();
    }

    /**
     * Sixteen changes, of each state some; worker 1 has a lease on job 0 until
     * time 4, it is time 1; sixteen unflushed events, all of them approvals of
     * the change that conflicts.
     */
    private static GatedTrunk scene() {
        GatedTrunk x = new GatedTrunk(1, 2, 1, 4);
        opened(x, 1, 5);
        opened(x, 1, 6);
        opened(x, 1, 7);
        approvedAndQueued(x, MERGED);
        run(x, 0, 0, true);
        approvedAndQueued(x, REJECTED_BY_CONFLICT);
        x.close(x.open());
        opened(x, 0, 0);
        approvedAndQueued(x, REJECTED_BY_PIPELINE);
        x.open();
        x.approve(OBJECTED, 0);
        x.object(OBJECTED, 1);
        x.open();
        opened(x, 0, CHAIN);
        approvedAndQueued(x, UNDER_TEST);
        for (int c = QUEUED; c < 16; c++) {
            x.open();
        }
        approvedAndQueued(x, QUEUED);
        approvedAndQueued(x, QUEUED + 1);
        Check.due("claim", 0, x.claim(1));
        Check.due("tick", 0, x.tick(1));
        x.flush();
        for (int i = 0; i < 16; i++) {
            x.approve(CONFLICTING, i % 8);
        }
        return x;
    }

    private static void approvedAndQueued(GatedTrunk x, int c) {
        x.approve(c, 4);
        Check.yes("enqueue", x.enqueue(c));
    }

    private static void theScene() {
        Check.part("the scene of the refusals");
        GatedTrunk x = scene();
        int[] states = {2, 0, 3, 4, 3, 0, 0, 1, 1, 1, 0, 0, 0, 0, 0, 0};
        int[] causes = {0, 0, 1, 0, 2, 0, 0, 0, 0, 0, 0, 0, 0, 0, 0, 0};
        for (int c = 0; c < 16; c++) {
            Check.due("state of " + c, states[c], x.state(c));
            Check.due("cause of " + c, causes[c], x.cause(c));
        }
        Check.due("standing", 8, x.standing(CONFLICTING));
        queueIs(x, 7, 8, 9);
        jobsAre(x, 11, 1, 1, 0);
        later(x);
    }

    /** What comes after the scene, whatever has been refused. */
    private static void later(GatedTrunk x) {
        Check.due("flush", 16, x.flush());
        Check.due("tick until 3", 0, x.tick(2));
        Check.due("tick until 4", 1, x.tick(1));
        jobsAre(x, 1, 1, 1, 0);
        Check.due("the last attempt", 0, x.claim(1));
        Check.due("tick until 7", 0, x.tick(3));
        Check.due("tick until 8", 1, x.tick(1));
        rejected(x, UNDER_TEST, 12);
        Check.due("batch", 2, x.batch());
        queueIs(x, 8, 9);
        Check.due("flush", 5, x.flush());
    }

    private static void refused(String call, Refused refused) {
        GatedTrunk x = scene();
        String before = looks(x, 16);
        Check.yes(call + " is refused", refused.by(x));
        Check.yes(call + " changes nothing", before.equals(looks(x, 16)));
        Check.due(call + " is no event: crash(0)", 16, x.crash(0));
        Check.due(call + " flushed nothing", 0, x.standing(CONFLICTING));
        GatedTrunk y = scene();
        Check.yes(call + " is refused", refused.by(y));
        later(y);
    }

    private static void refusedOpen() {
        Check.part("2 open refused");
        refused("open()", x -> x.open() == -1);
    }

    private static void refusedPush() {
        Check.part("3 push refused");
        for (int c : NO_CHANGES) {
            refused("push of no change " + c, x -> !x.push(c, 1, 1));
        }
        int[] notOpen = {MERGED, REJECTED_BY_CONFLICT, REJECTED_BY_PIPELINE, CLOSED, UNDER_TEST, QUEUED};
        for (int c : notOpen) {
            refused("push of change " + c, x -> !x.push(c, 1, 1));
        }
        int[] noPaths = {LEAST, -1, 6, MOST};
        for (int path : noPaths) {
            refused("push at path " + path, x -> !x.push(CONFLICTING, path, 1));
        }
    }

    private static void refusedApprove() {
        Check.part("4 approve refused");
        for (int c : NO_CHANGES) {
            refused("approve of no change " + c, x -> !x.approve(c, 1));
        }
        int[] notOpen = {MERGED, REJECTED_BY_CONFLICT, REJECTED_BY_PIPELINE, CLOSED, UNDER_TEST, QUEUED};
        for (int c : notOpen) {
            refused("approve of change " + c, x -> !x.approve(c, 1));
        }
        int[] noReviewers = {LEAST, -1, 8, MOST};
        for (int r : noReviewers) {
            refused("approve by " + r, x -> !x.approve(WITHOUT_REVIEWERS, r));
        }
    }

    private static void refusedObject() {
        Check.part("5 object refused");
        for (int c : NO_CHANGES) {
            refused("object of no change " + c, x -> !x.object(c, 1));
        }
        int[] notOpen = {MERGED, REJECTED_BY_CONFLICT, REJECTED_BY_PIPELINE, CLOSED, UNDER_TEST, QUEUED};
        for (int c : notOpen) {
            refused("object of change " + c, x -> !x.object(c, 1));
        }
        int[] noReviewers = {LEAST, -1, 8, MOST};
        for (int r : noReviewers) {
            refused("object by " + r, x -> !x.object(WITHOUT_REVIEWERS, r));
        }
    }

    private static void refusedClose() {
        Check.part("6 close refused");
        for (int c : NO_CHANGES) {
            refused("close of no change " + c, x -> !x.close(c));
        }
        int[] others = {MERGED, CLOSED, UNDER_TEST, QUEUED};
        for (int c : others) {
            refused("close of change " + c, x -> !x.close(c));
        }
    }

    private static void refusedEnqueue() {
        Check.part("7 enqueue refused");
        for (int c : NO_CHANGES) {
            refused("enqueue of no change " + c, x -> !x.enqueue(c));
        }
        int[] notOpen = {MERGED, REJECTED_BY_CONFLICT, REJECTED_BY_PIPELINE, CLOSED, UNDER_TEST, QUEUED};
        for (int c : notOpen) {
            refused("enqueue of change " + c, x -> !x.enqueue(c));
        }
        refused("enqueue where fewer stand for it than must", x -> !x.enqueue(WITHOUT_REVIEWERS));
        refused("enqueue where one stands against it", x -> !x.enqueue(OBJECTED));
    }

    private static void refusedRebase() {
        Check.part("8 rebase refused");
        for (int c : NO_CHANGES) {
            refused("rebase of no change " + c, x -> !x.rebase(c));
        }
        int[] others = {MERGED, CLOSED, UNDER_TEST, QUEUED};
        for (int c : others) {
            refused("rebase of change " + c, x -> !x.rebase(c));
        }
        refused("rebase of an open one that conflicts", x -> !x.rebase(CONFLICTING));
        refused("rebase of a rejected one that conflicts", x -> !x.rebase(REJECTED_BY_CONFLICT));
    }

    private static void refusedClaim() {
        Check.part("9 claim refused");
        int[] noWorkers = {LEAST, -1, 4, MOST};
        for (int w : noWorkers) {
            refused("claim by no worker " + w, x -> x.claim(w) == -1);
        }
        refused("claim by one with a lease", x -> x.claim(1) == -1);
        int[] others = {0, 2, 3};
        for (int w : others) {
            refused("claim of no such job by " + w, x -> x.claim(w) == -1);
        }
    }

    private static void refusedReport() {
        Check.part("10 report refused");
        int[] noLeases = {LEAST, -1, 0, 2, 3, 4, MOST};
        for (int w : noLeases) {
            refused("report of passed by " + w, x -> !x.report(w, true));
            refused("report of failed by " + w, x -> !x.report(w, false));
        }
    }

    private static void refusedTick() {
        Check.part("11 tick refused");
        int[] lengths = {LEAST, -1, 0, 21, MOST};
        for (int n : lengths) {
            refused("tick(" + n + ")", x -> x.tick(n) == -1);
        }
    }

    private static void refusedWithNoBatch() {
        Check.part("9 and 10 refused when no batch is under test");
        for (int w = 0; w < 4; w++) {
            GatedTrunk x = new GatedTrunk(0, 1, 0, 1);
            for (int c = 0; c < 16; c++) {
                x.open();
            }
            String before = looks(x, 16);
            Check.due("claim", -1, x.claim(w));
            Check.no("report", x.report(w, true));
            Check.no("report", x.report(w, false));
            Check.yes("nothing has changed", before.equals(looks(x, 16)));
            Check.due("crash", 16, x.crash(0));
            Check.due("state", -1, x.state(0));
        }
    }

    private static void refusedByANewObject() {
        Check.part("2 to 11 refused by a new object");
        GatedTrunk x = new GatedTrunk(0, 8, 2, 9);
        String before = looks(x, 1);
        Check.no("push", x.push(0, 0, 0));
        Check.no("approve", x.approve(0, 0));
        Check.no("object", x.object(0, 0));
        Check.no("close", x.close(0));
        Check.no("enqueue", x.enqueue(0));
        Check.no("rebase", x.rebase(0));
        Check.due("claim", -1, x.claim(0));
        Check.no("report", x.report(0, true));
        Check.due("tick", -1, x.tick(0));
        Check.yes("nothing has changed", before.equals(looks(x, 1)));
        Check.due("flush", 0, x.flush());
        Check.due("open", 0, x.open());
    }
}
