/** Each promise by itself: ordinary inputs, the edges that the document names, wrong inputs. */
public final class PromiseTest extends Steps {
    public static void main(String[] args) {
        aNewObject();
        open();
        push();
        approve();
        object();
        close();
        enqueue();
        merging();
        rebase();
        claim();
        report();
        failing();
        pipelines();
        halving();
        lateConflicts();
        emptiedNumber();
        tick();
        tickBuilds();
        events();
        flush();
        crash();
        crashBringsBack();
        crashBringsBackLeases();
        crashExpires();
        crashIsFlushed();
        looks();
        Check.finish();
    }

    private static void aNewObject() {
        Check.part("1 a new object");
        GatedTrunk x = new GatedTrunk(1, 4, 1, 3);
        Check.due("version", 0, x.version());
        Check.due("trunk at 0", 17, x.file(-1, 0));
        for (int path = 1; path < 6; path++) {
            Check.due("trunk at " + path, 0, x.file(-1, path));
        }
        Check.due("state", -1, x.state(0));
        Check.due("queueAt", -1, x.queueAt(0));
        Check.due("batch", 0, x.batch());
        Check.due("job", 0, x.job(0));
        Check.due("claim", -1, x.claim(0));
        Check.due("crash", 0, x.crash(0));
        Check.due("flush", 0, x.flush());
    }

    private static void open() {
        Check.part("2 open");
        GatedTrunk x = new GatedTrunk(0, 8, 0, 1);
        queued(x, 3, 8);
        Check.due("second open", 1, x.open());
        run(x, 0, 0, true);
        Check.due("third open", 2, x.open());
        Check.due("state", 0, x.state(2));
        Check.due("standing", 0, x.standing(2));
        Check.due("own of the second", 0, x.file(1, 3));
        Check.due("own of the third", 8, x.file(2, 3));
        Check.due("own of the third at 0", 17, x.file(2, 0));
        // The third's base is the trunk with the 8: back to 0 is a content of its own.
        x.push(2, 3, 0);
        x.enqueue(2);
        Check.due("merged", 0, x.file(-2, 3));
        for (int c = 3; c < 16; c++) {
            Check.due("open", c, x.open());
        }
        x.flush();
        Check.due("open of the 17th", -1, x.open());
        x.close(9);
        Check.due("open when one is closed", -1, x.open());
        Check.due("flush: refused is no event", 1, x.flush());
        Check.due("state of the 17th", -1, x.state(16));
    }

    private static void push() {
        Check.part("3 push");
        GatedTrunk x = new GatedTrunk(0, 1, 0, 1);
        x.open();
        x.open();
        x.approve(0, 1);
        x.object(0, 2);
        x.approve(1, 1);
        Check.yes("push", x.push(0, 5, LEAST));
        Check.due("own", LEAST, x.file(0, 5));
        Check.due("own elsewhere", 0, x.file(0, 4));
        Check.due("own of the other", 0, x.file(1, 5));
        Check.due("standing", 0, x.standing(0));
        Check.due("standing of the other", 1, x.standing(1));
        x.approve(0, 1);
        Check.yes("push of the same", x.push(0, 5, LEAST));
        Check.due("standing", 0, x.standing(0));
        x.object(0, 1);
        x.flush();
        Check.no("path -1", x.push(0, -1, 1));
        Check.no("path 6", x.push(0, 6, 1));
        Check.no("no change", x.push(2, 0, 1));
        Check.no("no change", x.push(-1, 0, 1));
        Check.no("no change", x.push(MOST, 0, 1));
        Check.due("standing after refusals", 10, x.standing(0));
        Check.due("flush after refusals", 0, x.flush());
        x.enqueue(1);
        Check.no("queued", x.push(1, 0, 1));
        run(x, 0, 0, true);
        Check.no("merged", x.push(1, 0, 1));
        x.close(0);
        Check.no("closed", x.push(0, 0, 1));
        Check.due("own of the closed", 17, x.file(0, 0));
        queued(x, 0, 0);
        rejected(x, 2, 2);
        Check.no("rejected", x.push(2, 0, 17));
    }

    private static void approve() {
        Check.part("4 approve");
        GatedTrunk x = new GatedTrunk(2, 1, 0, 1);
        x.open();
        Check.yes("first", x.approve(0, 0));
        Check.yes("again", x.approve(0, 0));
        Check.due("standing", 1, x.standing(0));
        Check.no("enqueue", x.enqueue(0));
        Check.yes("last", x.approve(0, 7));
        Check.due("standing", 2, x.standing(0));
        x.object(0, 0);
        Check.due("standing", 11, x.standing(0));
        Check.yes("for instead of against", x.approve(0, 0));
        Check.due("standing", 2, x.standing(0));
        x.flush();
        Check.no("reviewer 8", x.approve(0, 8));
        Check.no("reviewer -1", x.approve(0, -1));
        Check.no("reviewer 32", x.approve(0, 32));
        Check.no("no change", x.approve(1, 0));
        Check.no("no change", x.approve(-1, 0));
        Check.due("flush after refusals", 0, x.flush());
        Check.due("standing", 2, x.standing(0));
        x.enqueue(0);
        Check.no("queued", x.approve(0, 1));
        run(x, 0, 0, false);
        Check.no("rejected", x.approve(0, 1));
        Check.due("standing of the rejected", 2, x.standing(0));
        x.close(0);
        Check.no("closed", x.approve(0, 1));
        Check.due("standing of the closed", 2, x.standing(0));
    }

    private static void object() {
        Check.part("5 object");
        GatedTrunk x = new GatedTrunk(0, 1, 0, 1);
        x.open();
        Check.yes("first", x.object(0, 0));
        Check.yes("again", x.object(0, 0));
        Check.due("standing", 10, x.standing(0));
        x.approve(0, 7);
        Check.yes("against instead of for", x.object(0, 7));
        Check.due("standing", 20, x.standing(0));
        x.flush();
        Check.no("reviewer 8", x.object(0, 8));
        Check.no("reviewer -1", x.object(0, -1));
        Check.no("no change", x.object(1, 0));
        Check.no("no change", x.object(-1, 0));
        Check.due("flush after refusals", 0, x.flush());
        x.approve(0, 0);
        x.approve(0, 7);
        x.enqueue(0);
        Check.no("queued", x.object(0, 1));
        run(x, 0, 0, true);
        Check.no("merged", x.object(0, 1));
        x.open();
        x.close(1);
        Check.no("closed", x.object(1, 1));
        Check.due("standing of the merged", 2, x.standing(0));
    }

    private static void close() {
        Check.part("6 close");
        GatedTrunk x = new GatedTrunk(0, 1, 0, 1);
        opened(x, 2, 6);
        Check.yes("open", x.close(0));
        Check.due("state", 4, x.state(0));
        Check.due("own", 6, x.file(0, 2));
        queued(x, 0, 0);
        rejected(x, 1, 2);
        Check.yes("rejected", x.close(1));
        Check.due("state", 4, x.state(1));
        Check.due("cause", 0, x.cause(1));
        queued(x, 1, 1);
        x.flush();
        Check.no("closed", x.close(0));
        Check.no("queued", x.close(2));
        Check.no("no change", x.close(3));
        Check.no("no change", x.close(-1));
        Check.due("flush after refusals", 0, x.flush());
        Check.due("state of the queued", 1, x.state(2));
        run(x, 0, 0, true);
        Check.no("merged", x.close(2));
        Check.due("state of the merged", 2, x.state(2));
        Check.no("rebase of the closed", x.rebase(0));
        Check.no("enqueue of the closed", x.enqueue(0));
    }

    private static void enqueue() {
        Check.part("7 enqueue");
        GatedTrunk x = new GatedTrunk(1, 1, 0, 1);
        for (int c = 0; c < 4; c++) {
            x.open();
        }
        Check.no("none stands for it", x.enqueue(2));
        x.approve(2, 3);
        x.object(2, 4);
        Check.no("one stands against it", x.enqueue(2));
        x.approve(2, 4);
        Check.yes("more than must", x.enqueue(2));
        Check.due("state", 1, x.state(2));
        Check.due("queue", 2, x.queueAt(0));
        x.approve(0, 0);
        x.approve(3, 0);
        Check.yes("second", x.enqueue(3));
        Check.yes("third", x.enqueue(0));
        Check.due("queue at 1", 3, x.queueAt(1));
        Check.due("queue at 2", 0, x.queueAt(2));
        Check.due("queue at 3", -1, x.queueAt(3));
        Check.due("batch", 1, x.batch());
        x.flush();
        Check.no("queued", x.enqueue(3));
        Check.no("no change", x.enqueue(4));
        Check.no("no change", x.enqueue(-1));
        Check.no("none stands for it", x.enqueue(1));
        Check.due("flush after refusals", 0, x.flush());
        run(x, 0, 0, true);
        Check.no("merged", x.enqueue(2));
        run(x, 0, 0, false);
        rejected(x, 3, 10);
        Check.no("rejected", x.enqueue(3));
        Check.due("queue", 0, x.queueAt(0));
    }

    private static void merging() {
        Check.part("terms: merging");
        GatedTrunk x = new GatedTrunk(0, 8, 0, 1);
        opened(x, 1, 1);
        opened(x, 1, 1);
        opened(x, 1, 2);
        int untouched = x.open();
        opened(x, 1, 1);
        x.push(4, 2, 4);
        x.push(2, 3, 9);
        x.enqueue(0);
        x.enqueue(1);
        x.enqueue(2);
        x.enqueue(untouched);
        x.enqueue(4);
        run(x, 0, 0, true);
        // Change 1 wants what stands there, 2 conflicts and is merged at no path, 3 wants nothing.
        rejected(x, 2, 1);
        Check.due("batch", 3, x.batch());
        Check.due("merged at 1", 1, x.file(-2, 1));
        Check.due("merged at 2", 4, x.file(-2, 2));
        Check.due("merged at 3", 0, x.file(-2, 3));
        Check.due("queue at 1", 3, x.queueAt(1));
        Check.due("queue at 2", 4, x.queueAt(2));
        run(x, 0, 0, true);
        Check.due("version", 2, x.version());
        Check.due("state of 3", 2, x.state(3));
        Check.due("trunk at 2", 4, x.file(-1, 2));
    }

    private static void rebase() {
        Check.part("8 rebase");
        GatedTrunk x = new GatedTrunk(0, 1, 0, 1);
        opened(x, 1, 1);
        opened(x, 2, 2);
        opened(x, 1, 3);
        opened(x, 1, 1);
        x.enqueue(0);
        run(x, 0, 0, true);
        x.approve(1, 1);
        x.object(1, 2);
        Check.yes("open", x.rebase(1));
        Check.due("own at 1", 1, x.file(1, 1));
        Check.due("own at 2", 2, x.file(1, 2));
        Check.due("standing", 0, x.standing(1));
        Check.due("state", 0, x.state(1));
        // Its base at 1 is the trunk's 1 now, so that 0 there is a content of its own.
        x.push(1, 1, 0);
        x.enqueue(1);
        Check.due("merged at 1", 0, x.file(-2, 1));
        run(x, 0, 0, false);
        rejected(x, 1, 10);
        x.flush();
        Check.yes("rejected", x.rebase(1));
        Check.due("flush", 1, x.flush());
        Check.due("state", 0, x.state(1));
        Check.due("cause", 0, x.cause(1));
        Check.due("own at 1", 0, x.file(1, 1));
        x.object(2, 5);
        x.flush();
        Check.no("conflict", x.rebase(2));
        Check.due("own of the conflicting", 3, x.file(2, 1));
        Check.due("standing of the conflicting", 10, x.standing(2));
        Check.no("merged", x.rebase(0));
        Check.no("no change", x.rebase(4));
        Check.no("no change", x.rebase(-1));
        Check.due("flush after refusals", 0, x.flush());
        // Change 3 has what the trunk has: no conflict, and nothing of its own is left.
        Check.yes("the same as the trunk", x.rebase(3));
        x.push(3, 1, 7);
        x.push(3, 1, 1);
        x.enqueue(1);
        Check.no("queued", x.rebase(1));
        run(x, 0, 0, true);
        Check.due("trunk at 1", 0, x.file(-1, 1));
        x.enqueue(3);
        Check.due("merged at 1: 3 wants nothing", 0, x.file(-2, 1));
    }

    private static void claim() {
        Check.part("9 claim");
        GatedTrunk x = new GatedTrunk(0, 1, 0, 2);
        Check.due("no batch", -1, x.claim(0));
        queued(x, 0, CHAIN);
        x.flush();
        Check.due("worker -1", -1, x.claim(-1));
        Check.due("worker 4", -1, x.claim(4));
        Check.due("least worker", -1, x.claim(LEAST));
        Check.due("flush after refusals", 0, x.flush());
        Check.due("claim", 0, x.claim(3));
        Check.due("job 0", 13, x.job(0));
        Check.due("has a lease", -1, x.claim(3));
        Check.due("needs are not passed", -1, x.claim(0));
        Check.due("flush", 1, x.flush());
        x.report(3, true);
        Check.due("claim", 1, x.claim(0));
        Check.due("job 2 needs job 1", -1, x.claim(3));
        x.report(0, true);
        Check.due("claim", 2, x.claim(3));
        Check.due("job 0", 2, x.job(0));
        Check.due("job 2", 13, x.job(2));
        x.report(3, true);
        Check.due("version", 1, x.version());
        GatedTrunk y = new GatedTrunk(0, 1, 1, 2);
        queued(y, 0, FOUR);
        for (int w = 3; w >= 0; w--) {
            Check.due("claim", 3 - w, y.claim(w));
        }
        Check.due("expired", 4, y.tick(2));
        Check.due("claim again", 0, y.claim(2));
        y.tick(1);
        Check.due("claim again", 1, y.claim(0));
        Check.due("expired", 1, y.tick(1));
        rejected(y, 0, 10);
    }

    private static void report() {
        Check.part("10 report");
        GatedTrunk x = new GatedTrunk(0, 1, 2, 3);
        queued(x, 0, FOUR);
        x.flush();
        Check.no("no lease", x.report(0, true));
        Check.no("worker -1", x.report(-1, true));
        Check.no("worker 4", x.report(4, false));
        Check.no("most", x.report(MOST, false));
        Check.due("flush after refusals", 0, x.flush());
        x.claim(0);
        x.claim(1);
        Check.yes("passed", x.report(1, true));
        Check.due("job 1", 2, x.job(1));
        Check.due("job 0", 10, x.job(0));
        Check.no("the lease has ended", x.report(1, true));
        Check.due("claim", 2, x.claim(1));
        Check.yes("passed", x.report(0, true));
        Check.yes("passed", x.report(1, true));
        Check.due("version", 0, x.version());
        Check.due("batch", 1, x.batch());
        run(x, 2, 3, true);
        Check.due("version", 1, x.version());
        Check.due("batch", 0, x.batch());
        Check.due("job", 0, x.job(3));
        Check.due("trunk at 0", FOUR, x.file(-1, 0));
        queued(x, 1, 1);
        x.claim(0);
        x.claim(1);
        Check.yes("failed at once, retries or not", x.report(1, false));
        rejected(x, 1, 11);
        Check.no("all leases have ended", x.report(0, true));
    }

    private static void failing() {
        Check.part("terms: failing");
        // Job 3 is not required and fails with job 0, which needs it, and job 1, which needs 0.
        int p = 0b1111 | 0b0110 << 4 | needs(0, 3) | needs(1, 0);
        GatedTrunk x = new GatedTrunk(0, 1, 0, 9);
        queued(x, 0, p);
        Check.due("claim", 2, x.claim(0));
        run(x, 1, 3, false);
        rejected(x, 0, 11);
        Check.no("leases ended", x.report(0, true));
        // Nothing that is required needs job 3, so the batch goes on, and passes without job 2.
        GatedTrunk y = new GatedTrunk(0, 1, 0, 9);
        queued(y, 0, 0b1111 | 0b0010 << 4 | needs(0, 3) | needs(2, 0));
        Check.due("claim", 1, y.claim(2));
        run(y, 3, 3, false);
        Check.due("job 3", 3, y.job(3));
        Check.due("job 0", 3, y.job(0));
        Check.due("job 2", 3, y.job(2));
        Check.due("job 1", 12, y.job(1));
        Check.due("nothing to claim", -1, y.claim(0));
        Check.yes("the required job", y.report(2, true));
        Check.due("version", 1, y.version());
        // When it passes all leases end.
        queued(y, 1, 1);
        Check.due("claim", 1, y.claim(0));
        Check.due("claim", 3, y.claim(1));
        y.report(0, true);
        Check.due("version", 2, y.version());
        Check.no("leases ended", y.report(1, true));
        queued(y, 1, 2);
        Check.due("claim of one whose lease ended", 1, y.claim(1));
        // The least of the required jobs that failed is told, though another failed first.
        GatedTrunk z = new GatedTrunk(0, 1, 0, 9);
        queued(z, 0, 0b1101 | 0b1101 << 4 | needs(2, 3) | needs(0, 2));
        run(z, 0, 3, false);
        rejected(z, 0, 10);
        queued(z, 0, 0b1101 | 0b1100 << 4 | needs(2, 3) | needs(0, 2));
        run(z, 0, 3, false);
        rejected(z, 1, 12);
        queued(z, 0, 0b1000 | 0b1000 << 4);
        run(z, 0, 3, false);
        rejected(z, 2, 13);
    }

    private static void pipelines() {
        Check.part("terms: pipelines");
        int[] invalid = {0, 16, 1, 32 | 1, 1 << 4 | 2, 17 | needs(0, 0), 17 | needs(0, 1), 17 | needs(0, 3),
            CHAIN | needs(0, 2), CHAIN | needs(0, 1), CHAIN | needs(0, 3), FOUR | needs(3, 3),
            FOUR | needs(0, 1) | needs(1, 2) | needs(2, 3) | needs(3, 0), 0b0011 | 16 | needs(1, 1), 0xF0, 15};
        int[] valid = {17, CHAIN, FOUR, 17 | needs(1, 1), 17 | needs(2, 3), 17 | needs(1, 0), 17 | 0xE0, 17 | 1 << 24,
            17 | LEAST, FOUR | needs(0, 1) | needs(1, 2) | needs(2, 3), FOUR | needs(3, 0) | needs(3, 1) | needs(3, 2)};
        for (int p : invalid) {
            GatedTrunk x = new GatedTrunk(0, 1, 0, 1);
            queued(x, 0, p);
            rejected(x, 0, 2);
            Check.due("batch of " + p, 0, x.batch());
            Check.due("queue of " + p, -1, x.queueAt(0));
        }
        for (int p : valid) {
            GatedTrunk x = new GatedTrunk(0, 1, 0, 1);
            queued(x, 0, p);
            Check.due("state of " + p, 1, x.state(0));
            Check.due("batch of " + p, 1, x.batch());
            for (int j = 0; j < 4; j++) {
                Check.due("job " + j + " of " + p, p >> j & 1, x.job(j));
            }
        }
    }

    private static void halving() {
        Check.part("terms: halving");
        GatedTrunk x = withQueue(7, 0, 10);
        run(x, 0, 0, true);
        int[] sizes = {7, 4, 2, 1};
        for (int size : sizes) {
            Check.due("batch", size, x.batch());
            run(x, 0, 0, false);
        }
        rejected(x, 1, 10);
        int[] rest = {1, 2, 3, 2};
        for (int size : rest) {
            Check.due("batch of the rest", size, x.batch());
            run(x, 0, 0, true);
        }
        Check.due("version", 5, x.version());
        Check.due("batch", 0, x.batch());
        Check.due("state of 9", 2, x.state(9));
        // The plan holds though the queue has grown: 3 is 2 and 1, then a new number.
        GatedTrunk y = withQueue(3, 0, 4);
        run(y, 0, 0, true);
        run(y, 0, 0, false);
        Check.due("batch", 2, y.batch());
        y.open();
        y.enqueue(4);
        run(y, 0, 0, true);
        Check.due("batch", 1, y.batch());
        Check.due("queue", 3, y.queueAt(0));
        run(y, 0, 0, true);
        Check.due("batch", 1, y.batch());
        Check.due("queue", 4, y.queueAt(0));
        // A pipeline that is not valid halves too, all in one event.
        GatedTrunk z = new GatedTrunk(0, 8, 0, 1);
        z.enqueue(z.open());
        queued(z, 1, 1);
        queued(z, 0, 0);
        queued(z, 2, 2);
        run(z, 0, 0, true);
        Check.due("batch", 1, z.batch());
        Check.due("queue", 1, z.queueAt(0));
        run(z, 0, 0, true);
        rejected(z, 2, 2);
        Check.due("queue", 3, z.queueAt(0));
        Check.due("batch", 1, z.batch());
        Check.due("version", 2, z.version());
    }

    private static void lateConflicts() {
        Check.part("terms: late conflicts");
        // 1 and 2 merge into the same batch's plan; the first half fails, so the second meets another tree.
        GatedTrunk x = new GatedTrunk(0, 8, 0, 1);
        x.enqueue(x.open());
        queued(x, 1, 1);
        queued(x, 1, 2);
        queued(x, 1, 3);
        queued(x, 1, 1);
        run(x, 0, 0, true);
        rejected(x, 2, 1);
        rejected(x, 3, 1);
        Check.due("batch", 2, x.batch());
        Check.due("queue at 1", 4, x.queueAt(1));
        // The number was 4 and is 2 now: halved it is 1 and 1.
        run(x, 0, 0, false);
        Check.due("batch", 1, x.batch());
        run(x, 0, 0, true);
        Check.due("batch", 1, x.batch());
        run(x, 0, 0, true);
        Check.due("version", 3, x.version());
        // All of a number conflict: it leaves the plan, and the next is built at once.
        GatedTrunk y = new GatedTrunk(0, 1, 0, 1);
        queued(y, 1, 1);
        queued(y, 1, 2);
        queued(y, 1, 3);
        queued(y, 2, 3);
        run(y, 0, 0, true);
        rejected(y, 1, 1);
        rejected(y, 2, 1);
        Check.due("batch", 1, y.batch());
        Check.due("queue", 3, y.queueAt(0));
        Check.due("merged at 2", 3, y.file(-2, 2));
    }

    private static void emptiedNumber() {
        Check.part("terms: a number of the plan that conflicts empty");
        GatedTrunk x = new GatedTrunk(0, 3, 0, 1);
        queued(x, 1, 5);
        run(x, 0, 0, true);
        opened(x, 1, 7);
        queued(x, 1, 9);
        run(x, 0, 0, true);
        x.enqueue(x.open());
        opened(x, 1, 5);
        x.enqueue(4);
        queued(x, 2, 2);
        x.enqueue(1);
        run(x, 0, 0, true);
        // Change 1 goes from 5 to 7, which only change 4 before it makes possible: the trunk has 9.
        Check.due("batch", 3, x.batch());
        Check.due("merged at 1", 7, x.file(-2, 1));
        run(x, 0, 0, false);
        run(x, 0, 0, false);
        run(x, 0, 0, false);
        rejected(x, 4, 10);
        x.enqueue(x.open());
        x.enqueue(x.open());
        Check.due("queue", 5, x.queueAt(0));
        run(x, 0, 0, true);
        rejected(x, 1, 1);
        Check.due("a new number", 2, x.batch());
    }

    private static void tick() {
        Check.part("11 tick");
        GatedTrunk x = new GatedTrunk(0, 1, 1, 3);
        Check.due("tick 0", -1, x.tick(0));
        Check.due("tick -1", -1, x.tick(-1));
        Check.due("tick 21", -1, x.tick(21));
        Check.due("most", -1, x.tick(MOST));
        Check.due("flush after refusals", 0, x.flush());
        Check.due("tick 20", 0, x.tick(20));
        Check.due("flush: one event", 1, x.flush());
        queued(x, 0, FOUR);
        x.claim(0);
        x.tick(1);
        x.claim(2);
        Check.due("tick", 0, x.tick(1));
        Check.due("first lease", 1, x.tick(1));
        Check.due("job 0", 1, x.job(0));
        Check.due("job 1", 12, x.job(1));
        Check.due("second lease", 1, x.tick(1));
        Check.due("claim", 0, x.claim(3));
        Check.due("claim", 1, x.claim(1));
        Check.due("claim", 2, x.claim(0));
        // Of the three that last until then worker 0's job has another try; worker 1's fails the batch.
        Check.due("two expire, the third ends", 2, x.tick(3));
        rejected(x, 0, 11);
        Check.no("report", x.report(3, true));
    }

    private static void tickBuilds() {
        Check.part("11 tick builds");
        GatedTrunk x = new GatedTrunk(0, 4, 0, 2);
        x.enqueue(x.open());
        queued(x, 1, 1);
        queued(x, 2, 2);
        run(x, 0, 0, true);
        x.claim(1);
        Check.due("tick", 1, x.tick(20));
        Check.due("batch", 1, x.batch());
        Check.due("job", 1, x.job(0));
        Check.due("merged at 2", 0, x.file(-2, 2));
        x.claim(1);
        Check.due("tick", 1, x.tick(2));
        rejected(x, 1, 10);
        Check.due("queue", 2, x.queueAt(0));
        // A job that failed takes those that need it along, though their own lease is not the one that expired.
        GatedTrunk y = new GatedTrunk(0, 1, 0, 2);
        queued(y, 0, CHAIN);
        y.claim(0);
        Check.due("tick", 1, y.tick(2));
        rejected(y, 0, 12);
    }

    private static void events() {
        Check.part("terms: events");
        GatedTrunk x = new GatedTrunk(0, 1, 0, 9);
        x.open();
        x.push(0, 1, 1);
        x.approve(0, 1);
        x.object(0, 2);
        x.approve(0, 2);
        x.rebase(0);
        x.enqueue(0);
        x.claim(0);
        x.report(0, true);
        x.tick(20);
        x.open();
        x.close(1);
        Check.due("one of each kind", 12, x.flush());
        for (int i = 0; i < 16; i++) {
            x.tick(1);
        }
        Check.due("sixteen", 16, x.flush());
        for (int i = 0; i < 17; i++) {
            x.tick(1);
        }
        Check.due("one more than sixteen", 1, x.flush());
        for (int i = 0; i < 35; i++) {
            x.tick(1);
        }
        Check.due("three more than twice sixteen", 3, x.flush());
    }

    private static void flush() {
        Check.part("12 flush");
        GatedTrunk x = new GatedTrunk(0, 1, 0, 1);
        x.open();
        x.open();
        Check.due("flush", 2, x.flush());
        Check.due("flush again", 0, x.flush());
        x.open();
        Check.due("crash", 1, x.crash(0));
        Check.due("state of the flushed", 0, x.state(1));
        Check.due("state of the lost", -1, x.state(2));
        Check.due("open takes the number again", 2, x.open());
    }

    private static void crash() {
        Check.part("13 crash");
        GatedTrunk x = new GatedTrunk(1, 1, 0, 9);
        for (int i = 0; i < 5; i++) {
            x.open();
        }
        Check.due("crash(3)", 2, x.crash(3));
        Check.due("state", 0, x.state(2));
        Check.due("state", -1, x.state(3));
        x.push(0, 3, 5);
        x.approve(0, 1);
        Check.due("crash(-1)", 2, x.crash(-1));
        Check.due("own", 0, x.file(0, 3));
        Check.due("standing", 0, x.standing(0));
        x.push(0, 3, 5);
        x.approve(0, 1);
        Check.due("crash(3) of two", 0, x.crash(3));
        Check.due("standing", 1, x.standing(0));
        x.object(0, 1);
        Check.due("crash(MOST)", 0, x.crash(MOST));
        Check.due("standing", 10, x.standing(0));
        x.approve(0, 1);
        x.enqueue(0);
        x.claim(2);
        x.report(2, true);
        x.rebase(1);
        Check.due("version", 1, x.version());
        Check.due("crash(LEAST)", 5, x.crash(LEAST));
        Check.due("version", 0, x.version());
        Check.due("state", 0, x.state(0));
        Check.due("trunk", 0, x.file(-1, 3));
        Check.due("own of 1", 0, x.file(1, 3));
        Check.due("batch", 0, x.batch());
        // The seventeenth flushes the sixteen before it.
        GatedTrunk y = new GatedTrunk(0, 1, 0, 9);
        for (int c = 0; c < 16; c++) {
            y.open();
        }
        y.close(0);
        Check.due("refused flushes nothing", -1, y.open());
        Check.due("crash(0)", 1, y.crash(0));
        Check.due("state of 15", 0, y.state(15));
        Check.due("state of 0", 0, y.state(0));
        GatedTrunk z = new GatedTrunk(0, 1, 0, 9);
        for (int c = 0; c < 16; c++) {
            z.open();
        }
        Check.due("a refused one after sixteen", -1, z.open());
        Check.due("crash(0)", 16, z.crash(0));
        Check.due("state of 0", -1, z.state(0));
    }

    private static void crashBringsBack() {
        Check.part("13 crash brings back");
        GatedTrunk x = new GatedTrunk(0, 4, 1, 9);
        x.open();
        x.object(0, 1);
        x.flush();
        queued(x, 1, 5);
        run(x, 0, 0, true);
        x.rebase(0);
        x.approve(0, 1);
        Check.due("crash", 7, x.crash(0));
        Check.due("standing", 10, x.standing(0));
        x.push(0, 1, 3);
        x.enqueue(0);
        Check.due("its base is the old one again: no conflict", 1, x.state(0));
        queued(x, 2, 1);
        queued(x, 3, 1);
        queued(x, 4, 1);
        x.flush();
        run(x, 2, 0, true);
        Check.due("crash", 2, x.crash(0));
        for (int k = 0; k < 4; k++) {
            Check.due("queue at " + k, k, x.queueAt(k));
        }
        Check.due("batch", 1, x.batch());
        Check.due("merged at 1", 3, x.file(-2, 1));
        Check.due("merged at 2", 0, x.file(-2, 2));
        run(x, 0, 0, true);
        run(x, 0, 0, false);
        x.flush();
        run(x, 0, 0, true);
        Check.due("crash", 2, x.crash(0));
        x.enqueue(x.open());
        Check.due("batch", 2, x.batch());
        run(x, 0, 0, true);
        Check.due("the plan is 1 yet", 1, x.batch());
    }

    private static void crashBringsBackLeases() {
        Check.part("13 crash brings back the leases and the time");
        GatedTrunk x = new GatedTrunk(0, 1, 1, 5);
        queued(x, 1, 1);
        x.claim(0);
        x.flush();
        Check.due("tick", 1, x.tick(5));
        Check.due("claim", 0, x.claim(0));
        x.tick(1);
        // The tick that survives ends the first lease again, so the claim after it was the second attempt.
        Check.due("crash", 1, x.crash(2));
        rejected(x, 0, 10);
    }

    private static void crashExpires() {
        Check.part("13 crash expires");
        GatedTrunk x = new GatedTrunk(0, 4, 1, 9);
        x.enqueue(x.open());
        queued(x, 0, FOUR);
        queued(x, 1, 1);
        run(x, 0, 0, true);
        x.claim(2);
        x.claim(1);
        Check.due("crash", 0, x.crash(16));
        Check.due("batch", 2, x.batch());
        Check.due("job 0", 1, x.job(0));
        Check.no("the lease has ended", x.report(2, true));
        x.claim(3);
        x.claim(0);
        x.flush();
        x.report(0, true);
        x.report(3, true);
        Check.due("jobs", 2, x.job(0));
        // Both leases are back and expire: worker 0's job 1 is the first to fail.
        Check.due("crash", 2, x.crash(0));
        Check.due("batch", 1, x.batch());
        Check.due("queue", 1, x.queueAt(0));
        Check.due("job 0", 1, x.job(0));
        // A claim that did not survive is no attempt; one that did is one.
        GatedTrunk y = new GatedTrunk(0, 1, 2, 3);
        queued(y, 0, FOUR);
        y.tick(5);
        y.claim(0);
        y.claim(1);
        Check.due("crash", 2, y.crash(4));
        Check.due("job 0", 1, y.job(0));
        Check.due("claim", 0, y.claim(1));
        Check.due("tick", 0, y.tick(2));
        Check.due("crash", 1, y.crash(1));
        Check.due("claim", 0, y.claim(1));
        Check.due("tick", 0, y.tick(2));
        Check.due("second attempt", 1, y.tick(1));
        Check.due("job 0", 1, y.job(0));
        y.claim(1);
        Check.due("third attempt", 1, y.tick(3));
        rejected(y, 0, 10);
    }

    private static void crashIsFlushed() {
        Check.part("13 crash is flushed");
        GatedTrunk x = new GatedTrunk(0, 1, 0, 9);
        queued(x, 1, 1);
        x.claim(0);
        Check.due("crash", 0, x.crash(4));
        rejected(x, 0, 10);
        Check.due("flush", 0, x.flush());
        x.close(0);
        Check.due("crash", 1, x.crash(0));
        rejected(x, 0, 10);
        x.rebase(0);
        Check.due("crash", 0, x.crash(1));
        Check.due("crash again", 0, x.crash(0));
        Check.due("state", 0, x.state(0));
    }

    private static void looks() {
        Check.part("14 to 21");
        GatedTrunk x = new GatedTrunk(0, 4, 0, 1);
        queued(x, 5, 55);
        queued(x, 4, 44);
        opened(x, 3, 33);
        int[] none = {-1, 3, 16, LEAST, MOST};
        for (int c : none) {
            Check.due("state(" + c + ")", -1, x.state(c));
            Check.due("cause(" + c + ")", -1, x.cause(c));
            Check.due("standing(" + c + ")", -1, x.standing(c));
            Check.due("queueAt(" + c + ")", -1, x.queueAt(c));
            Check.due("file(0, " + (c == 3 ? 6 : c) + ")", 0, x.file(0, c == 3 ? 6 : c));
        }
        int[] noTree = {-3, 3, 16, LEAST, MOST};
        for (int which : noTree) {
            Check.due("file(" + which + ", 0)", 0, x.file(which, 0));
        }
        int[] noJob = {-1, 1, 4, LEAST, MOST};
        for (int j : noJob) {
            Check.due("job(" + j + ")", 0, x.job(j));
        }
        Check.due("queueAt(0)", 0, x.queueAt(0));
        Check.due("queueAt(1)", 1, x.queueAt(1));
        Check.due("queueAt(2)", -1, x.queueAt(2));
        Check.due("cause of the queued", 0, x.cause(0));
        Check.due("cause of the open", 0, x.cause(2));
        Check.due("file(-2, 5)", 55, x.file(-2, 5));
        Check.due("file(-2, 4)", 0, x.file(-2, 4));
        Check.due("file(-2, 0)", 17, x.file(-2, 0));
        Check.due("file(-1, 5)", 0, x.file(-1, 5));
        run(x, 0, 0, true);
        run(x, 0, 0, true);
        Check.due("file(-2, 0) of no batch", 0, x.file(-2, 0));
        Check.due("file(-1, 4)", 44, x.file(-1, 4));
        Check.due("file(1, 5)", 0, x.file(1, 5));
        Check.due("cause of the merged", 0, x.cause(1));
        Check.due("version", 2, x.version());
        Check.due("job(0)", 0, x.job(0));
        for (int i = 0; i < 20; i++) {
            x.file(-1, 0);
            x.state(0);
        }
        Check.due("flush: a look is no event", 12, x.flush());
    }
}
