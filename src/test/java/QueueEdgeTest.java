/** The edges of "The queue", "the plan", and of batches that fail or pass. */
public final class QueueEdgeTest extends Steps {
    public static void main(String[] args) {
        emptyQueue();
        fullQueue();
        fullQueueFails();
        inTheirOrder();
        backToTheEnd();
        planIsTheLesser();
        oneConflictsAtEachPlace();
        allOfANumberConflict();
        allOfTheQueueConflict();
        numberIsLessWhenHalved();
        numberOfThePlanIsZero();
        numberOfThePlanIsLess();
        oneMemberFails();
        halves();
        halvesOfHalves();
        oneMemberIsNotValid();
        lastOfEightIsNotValid();
        firstOfEightIsNotValid();
        allOfEightAreNotValid();
        passes();
        noAttemptsInANewBatch();
        Check.finish();
    }

    private static void emptyQueue() {
        Check.part("queue: as long as the queue is empty none is built");
        GatedTrunk x = new GatedTrunk(0, 8, 0, 1);
        x.open();
        x.tick(20);
        Check.due("batch", 0, x.batch());
        queueIs(x);
        Check.yes("enqueue", x.enqueue(0));
        Check.due("batch of the first", 1, x.batch());
        queueIs(x, 0);
        run(x, 0, 0, true);
        Check.due("batch after the last passed", 0, x.batch());
        queueIs(x);
        x.enqueue(x.open());
        run(x, 0, 0, false);
        Check.due("batch after the last was rejected", 0, x.batch());
        queueIs(x);
        x.tick(1);
        Check.due("batch", 0, x.batch());
    }

    private static void fullQueue() {
        Check.part("queue: all 16 changes");
        GatedTrunk x = withQueue(8, 0, 16);
        queueIs(x, 0, 1, 2, 3, 4, 5, 6, 7, 8, 9, 10, 11, 12, 13, 14, 15);
        Check.due("batch", 1, x.batch());
        run(x, 0, 0, true);
        Check.due("batch", 8, x.batch());
        queueIs(x, 1, 2, 3, 4, 5, 6, 7, 8, 9, 10, 11, 12, 13, 14, 15);
        run(x, 0, 0, true);
        Check.due("batch", 7, x.batch());
        queueIs(x, 9, 10, 11, 12, 13, 14, 15);
        run(x, 0, 0, true);
        Check.due("batch", 0, x.batch());
        queueIs(x);
        for (int c = 0; c < 16; c++) {
            stateIs(x, c, 2);
        }
        Check.due("version", 3, x.version());
    }

    private static void fullQueueFails() {
        Check.part("queue: all 16 changes fail");
        GatedTrunk x = withQueue(8, 0, 16);
        // 1 for the first; 8 alone and 7 halvings for the next eight; 7 alone and 6 halvings for the rest.
        for (int i = 0; i < 1 + 15 + 13; i++) {
            run(x, 0, 0, false);
        }
        Check.due("batch", 0, x.batch());
        queueIs(x);
        for (int c = 0; c < 16; c++) {
            rejected(x, c, 10);
        }
        Check.due("version", 0, x.version());
    }

    private static void inTheirOrder() {
        Check.part("queue: a change is queued at the end, whatever its number");
        GatedTrunk x = new GatedTrunk(0, 3, 0, 1);
        for (int c = 0; c < 4; c++) {
            x.open();
        }
        x.push(3, 1, 1);
        x.push(1, 1, 2);
        x.enqueue(2);
        x.enqueue(3);
        x.enqueue(1);
        x.enqueue(0);
        queueIs(x, 2, 3, 1, 0);
        run(x, 0, 0, true);
        // 3 came before 1, so it is 1 that conflicts.
        rejected(x, 1, 1);
        queueIs(x, 3, 0);
    }

    private static void backToTheEnd() {
        Check.part("queue: a change that was rejected comes back at the end");
        GatedTrunk x = withQueue(1, 0, 3);
        run(x, 0, 0, false);
        x.rebase(0);
        x.enqueue(0);
        queueIs(x, 1, 2, 0);
    }

    private static void planIsTheLesser() {
        Check.part("plan: the lesser of the batch size and the length of the queue");
        int[][] rows = {{1, 1, 1}, {1, 2, 1}, {1, 15, 1}, {2, 1, 1}, {3, 2, 2}, {3, 3, 3}, {3, 4, 3}, {7, 8, 7},
            {8, 1, 1}, {8, 7, 7}, {8, 8, 8}, {8, 9, 8}, {8, 15, 8}};
        for (int[] row : rows) {
            GatedTrunk x = withQueue(row[0], 0, 1 + row[1]);
            run(x, 0, 0, true);
            Check.due("batch of " + row[1] + " in the queue, size " + row[0], row[2], x.batch());
        }
    }

    private static void oneConflictsAtEachPlace() {
        Check.part("queue: one of three conflicts");
        int[][] rest = {{2, 3}, {1, 3}, {1, 2}};
        int[][] trees = {{17, 1, 0, 2, 3, 0}, {17, 1, 1, 0, 3, 0}, {17, 1, 1, 2, 0, 0}};
        for (int place = 0; place < 3; place++) {
            GatedTrunk x = new GatedTrunk(0, 3, 0, 1);
            queued(x, 1, 1);
            for (int c = 1; c < 4; c++) {
                x.open();
                x.push(c, 1 + c, c);
                if (c == 1 + place) {
                    x.push(c, 1, 9);
                }
                x.enqueue(c);
            }
            run(x, 0, 0, true);
            rejected(x, 1 + place, 1);
            queueIs(x, rest[place]);
            Check.due("batch", 2, x.batch());
            treeIs(x, -2, trees[place]);
        }
    }

    private static void allOfANumberConflict() {
        Check.part("queue: a number that is 0 leaves the plan, and the next batch is built");
        GatedTrunk x = new GatedTrunk(0, 2, 0, 1);
        queued(x, 1, 1);
        queued(x, 1, 2);
        queued(x, 1, 3);
        queued(x, 2, 5);
        x.claim(0);
        x.flush();
        x.report(0, true);
        rejected(x, 1, 1);
        rejected(x, 2, 1);
        queueIs(x, 3);
        Check.due("batch", 1, x.batch());
        treeIs(x, -2, 17, 1, 5, 0, 0, 0);
        Check.due("flush: all in one event", 1, x.flush());
    }

    private static void allOfTheQueueConflict() {
        Check.part("queue: all of it conflicts");
        GatedTrunk x = new GatedTrunk(0, 2, 0, 1);
        queued(x, 1, 1);
        queued(x, 1, 2);
        queued(x, 1, 3);
        run(x, 0, 0, true);
        rejected(x, 1, 1);
        rejected(x, 2, 1);
        queueIs(x);
        Check.due("batch", 0, x.batch());
        Check.due("file(-2, 0)", 0, x.file(-2, 0));
        Check.due("claim", -1, x.claim(0));
        // The plan is empty: the next one is made anew.
        x.enqueue(x.open());
        Check.due("batch", 1, x.batch());
        x.enqueue(x.open());
        x.enqueue(x.open());
        run(x, 0, 0, true);
        Check.due("batch", 2, x.batch());
    }

    private static void numberIsLessWhenHalved() {
        Check.part("queue: for each that conflicts the first number is 1 less");
        GatedTrunk x = new GatedTrunk(0, 4, 0, 1);
        queued(x, 1, 1);
        x.enqueue(x.open());
        queued(x, 1, 2);
        for (int c = 3; c < 7; c++) {
            x.enqueue(x.open());
        }
        run(x, 0, 0, true);
        Check.due("4 of which one conflicts", 3, x.batch());
        queueIs(x, 1, 3, 4, 5, 6);
        run(x, 0, 0, false);
        Check.due("half of 3", 2, x.batch());
        run(x, 0, 0, true);
        Check.due("the other half of 3", 1, x.batch());
        run(x, 0, 0, true);
        Check.due("a new number", 2, x.batch());
        queueIs(x, 5, 6);
    }

    private static void numberOfThePlanIsZero() {
        Check.part("plan: a number in it that is 0 by conflicts leaves it");
        GatedTrunk x = fromFiveToSeven(4);
        queued(x, 1, 5);
        x.enqueue(1);
        for (int c = 5; c < 8; c++) {
            x.enqueue(x.open());
        }
        run(x, 0, 0, true);
        queueIs(x, 4, 1, 5, 6, 7);
        int[] sizes = {4, 2, 1};
        for (int size : sizes) {
            Check.due("batch", size, x.batch());
            run(x, 0, 0, false);
        }
        // The plan was 1, 1, 2: change 4 failed, and without it change 1 conflicts.
        rejected(x, 4, 10);
        rejected(x, 1, 1);
        Check.due("batch", 2, x.batch());
        queueIs(x, 5, 6, 7);
        Check.due("file(-2, 1)", 9, x.file(-2, 1));
        run(x, 0, 0, true);
        Check.due("batch of the last", 1, x.batch());
    }

    private static void numberOfThePlanIsLess() {
        Check.part("plan: a number in it that is less by conflicts");
        GatedTrunk x = fromFiveToSeven(4);
        queued(x, 1, 5);
        x.enqueue(x.open());
        x.enqueue(1);
        x.enqueue(x.open());
        x.enqueue(x.open());
        run(x, 0, 0, true);
        queueIs(x, 4, 5, 1, 6, 7);
        Check.due("batch", 4, x.batch());
        run(x, 0, 0, false);
        Check.due("batch", 2, x.batch());
        run(x, 0, 0, false);
        run(x, 0, 0, false);
        rejected(x, 4, 10);
        stateIs(x, 1, 1);
        run(x, 0, 0, true);
        // The plan's last number was 2, for changes 1 and 6: it is 1 now.
        rejected(x, 1, 1);
        Check.due("batch", 1, x.batch());
        queueIs(x, 6, 7);
        run(x, 0, 0, false);
        rejected(x, 6, 10);
        queueIs(x, 7);
        Check.due("batch", 1, x.batch());
    }

    private static void oneMemberFails() {
        Check.part("batch: one with one member fails");
        GatedTrunk x = withQueue(1, 0, 2);
        run(x, 0, 0, false);
        rejected(x, 0, 10);
        queueIs(x, 1);
        Check.due("batch", 1, x.batch());
        Check.due("version", 0, x.version());
        treeIs(x, -1, 17, 0, 0, 0, 0, 0);
        run(x, 0, 0, false);
        rejected(x, 1, 10);
        queueIs(x);
    }

    private static void halves() {
        Check.part("batch: one with n members fails, (n + 1) / 2 and n / 2");
        int[][] rows = {{2, 1, 1, 2}, {3, 2, 1, 3}, {4, 2, 2, 3}, {5, 3, 2, 3}, {6, 3, 3, 3}, {7, 4, 3, 3}, {8, 4, 4, 3}};
        for (int[] row : rows) {
            int n = row[0];
            GatedTrunk x = withQueue(n, 0, 1 + n + 3);
            run(x, 0, 0, true);
            Check.due("batch", n, x.batch());
            run(x, 0, 0, false);
            Check.due("first half of " + n, row[1], x.batch());
            Check.due("first of the queue", 1, x.queueAt(0));
            stateIs(x, 1, 1);
            run(x, 0, 0, true);
            Check.due("second half of " + n, row[2], x.batch());
            Check.due("first of the queue", 1 + row[1], x.queueAt(0));
            run(x, 0, 0, true);
            Check.due("of the 3 that are left", row[3], x.batch());
            Check.due("first of the queue", 1 + n, x.queueAt(0));
            Check.due("version", 3, x.version());
        }
    }

    private static void halvesOfHalves() {
        Check.part("batch: halves are halved again");
        GatedTrunk x = withQueue(5, 0, 8);
        run(x, 0, 0, true);
        int[] sizes = {5, 3, 2};
        for (int size : sizes) {
            Check.due("batch", size, x.batch());
            run(x, 0, 0, false);
        }
        // 5 is 3 2, then 2 1 2, then 1 1 1 2; behind it two are left.
        int[] rest = {1, 1, 1, 2, 2};
        for (int size : rest) {
            Check.due("batch of the rest", size, x.batch());
            run(x, 0, 0, true);
        }
        Check.due("batch", 0, x.batch());
        Check.due("version", 6, x.version());
    }

    private static void oneMemberIsNotValid() {
        Check.part("batch: one with one member has no valid pipeline");
        GatedTrunk x = withQueue(1, 0, 1);
        queued(x, 0, 0);
        x.enqueue(x.open());
        run(x, 0, 0, true);
        rejected(x, 1, 2);
        queueIs(x, 2);
        Check.due("batch", 1, x.batch());
        Check.due("version", 1, x.version());
        treeIs(x, -1, 17, 0, 0, 0, 0, 0);
    }

    private static void lastOfEightIsNotValid() {
        Check.part("batch: the last of eight makes the pipeline not valid");
        GatedTrunk x = withQueue(8, 0, 8);
        queued(x, 0, 0);
        run(x, 0, 0, true);
        // 8 is 4 4 at once; the second 4 is 2 2, the second of these 1 1.
        int[] sizes = {4, 2, 1};
        int[] firsts = {1, 5, 7};
        for (int i = 0; i < 3; i++) {
            Check.due("batch", sizes[i], x.batch());
            Check.due("first of the queue", firsts[i], x.queueAt(0));
            stateIs(x, 8, 1);
            run(x, 0, 0, true);
        }
        rejected(x, 8, 2);
        queueIs(x);
        Check.due("batch", 0, x.batch());
        Check.due("version", 4, x.version());
    }

    private static void firstOfEightIsNotValid() {
        Check.part("batch: the first of eight makes the pipeline not valid");
        GatedTrunk x = withQueue(8, 0, 1);
        queued(x, 0, 0);
        for (int c = 2; c < 9; c++) {
            x.enqueue(x.open());
        }
        x.claim(0);
        x.flush();
        x.report(0, true);
        rejected(x, 1, 2);
        Check.due("flush: all in one event", 1, x.flush());
        int[] sizes = {1, 2, 4};
        int[] firsts = {2, 3, 5};
        for (int i = 0; i < 3; i++) {
            Check.due("batch", sizes[i], x.batch());
            Check.due("first of the queue", firsts[i], x.queueAt(0));
            run(x, 0, 0, true);
        }
        queueIs(x);
        Check.due("version", 4, x.version());
    }

    private static void allOfEightAreNotValid() {
        Check.part("batch: all of eight make the pipeline not valid");
        GatedTrunk x = withQueue(8, 0, 1);
        for (int c = 1; c < 9; c++) {
            queued(x, 0, 0);
        }
        queueIs(x, 0, 1, 2, 3, 4, 5, 6, 7, 8);
        run(x, 0, 0, true);
        for (int c = 1; c < 9; c++) {
            rejected(x, c, 2);
        }
        queueIs(x);
        Check.due("batch", 0, x.batch());
        Check.due("version", 1, x.version());
        x.enqueue(x.open());
        Check.due("batch of the next", 1, x.batch());
    }

    private static void passes() {
        Check.part("batch: one with eight members passes");
        GatedTrunk x = withQueue(8, 0, 1);
        for (int c = 1; c < 9; c++) {
            queued(x, 1 + c % 5, c % 5);
        }
        x.enqueue(x.open());
        run(x, 0, 0, true);
        Check.due("batch", 8, x.batch());
        // Contents 1, 2, 3, 4 at paths 2, 3, 4, 5; what is 0 at path 1 is nothing of its own.
        treeIs(x, -2, 17, 0, 1, 2, 3, 4);
        treeIs(x, -1, 17, 0, 0, 0, 0, 0);
        run(x, 0, 0, true);
        treeIs(x, -1, 17, 0, 1, 2, 3, 4);
        Check.due("version: 1 more for all of them", 2, x.version());
        for (int c = 1; c < 9; c++) {
            stateIs(x, c, 2);
        }
        queueIs(x, 9);
        Check.due("batch", 1, x.batch());
    }

    private static void noAttemptsInANewBatch() {
        Check.part("batch: each job that is there waits and has had 0 attempts");
        GatedTrunk x = withQueue(2, 1, 3);
        run(x, 0, 0, true);
        Check.due("batch", 2, x.batch());
        x.claim(0);
        Check.due("tick", 1, x.tick(1));
        run(x, 0, 0, false);
        // The batch of 2 had two attempts; its first half is new.
        Check.due("batch", 1, x.batch());
        jobsAre(x, 1, 0, 0, 0);
        x.claim(0);
        Check.due("tick", 1, x.tick(1));
        jobsAre(x, 1, 0, 0, 0);
        stateIs(x, 1, 1);
        x.claim(0);
        Check.due("tick", 1, x.tick(1));
        rejected(x, 1, 10);
    }
}
