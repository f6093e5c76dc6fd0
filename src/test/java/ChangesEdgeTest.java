/** The edges of "Changes" and "Reviewers", and of promises 1 to 8. */
public final class ChangesEdgeTest extends Steps {
    /** A call that is told which change. */
    private interface OfChange {
        boolean call(GatedTrunk x, int c);
    }

    public static void main(String[] args) {
        approvalsInRange();
        batchSizeInRange();
        retriesInRange();
        leaseInRange();
        allOutOfRange();
        sixteenChanges();
        openIsTheTrunkAsItIs();
        numbersOfChanges();
        stateAllows();
        pushEndsStandings();
        contentOfPush();
        approveWhateverItDid();
        objectWhateverItDid();
        reviewersOfApprove();
        reviewersOfObject();
        allReviewers();
        closeOfRejected();
        fewerThanMust();
        oneStandsAgainst();
        standingsGoWithTheChange();
        rebaseOfAll();
        rebaseOfNothing();
        rebaseOfConflicting();
        rebaseEndsStandings();
        rebaseMovesBase();
        Check.finish();
    }

    private static void approvalsInRange() {
        Check.part("1 approvals 0 .. 3, else the nearest");
        int[][] rows = {{LEAST, 0}, {-1, 0}, {0, 0}, {1, 1}, {2, 2}, {3, 3}, {4, 3}, {MOST, 3}};
        for (int[] row : rows) {
            GatedTrunk x = new GatedTrunk(row[0], 1, 0, 1);
            int c = x.open();
            for (int r = 0; r < row[1]; r++) {
                Check.no("enqueue with " + r + " of " + row[0], x.enqueue(c));
                x.approve(c, r);
            }
            Check.yes("enqueue with " + row[1] + " of " + row[0], x.enqueue(c));
        }
    }

    private static void batchSizeInRange() {
        Check.part("1 batch 1 .. 8, else the nearest");
        int[][] rows = {{LEAST, 1}, {-1, 1}, {0, 1}, {1, 1}, {2, 2}, {7, 7}, {8, 8}, {9, 8}, {MOST, 8}};
        for (int[] row : rows) {
            GatedTrunk x = withQueue(row[0], 0, 11);
            run(x, 0, 0, true);
            Check.due("batch of " + row[0], row[1], x.batch());
        }
    }

    private static void retriesInRange() {
        Check.part("1 retries 0 .. 2, else the nearest");
        int[][] rows = {{LEAST, 0}, {-1, 0}, {0, 0}, {1, 1}, {2, 2}, {3, 2}, {MOST, 2}};
        for (int[] row : rows) {
            GatedTrunk x = withQueue(1, row[0], 1);
            for (int i = 0; i <= row[1]; i++) {
                Check.due("state before try " + i + " of " + row[0], 1, x.state(0));
                Check.due("claim", 0, x.claim(0));
                Check.due("tick", 1, x.tick(1));
            }
            rejected(x, 0, 10);
        }
    }

    private static void leaseInRange() {
        Check.part("1 lease 1 .. 9, else the nearest");
        int[][] rows = {{LEAST, 1}, {-1, 1}, {0, 1}, {1, 1}, {2, 2}, {8, 8}, {9, 9}, {10, 9}, {MOST, 9}};
        for (int[] row : rows) {
            GatedTrunk x = new GatedTrunk(0, 1, 2, row[0]);
            x.enqueue(x.open());
            x.claim(0);
            ticks(x, row[1] - 1);
            Check.due("job before the last tick of " + row[0], 10, x.job(0));
            Check.due("the last tick of " + row[0], 1, x.tick(1));
            Check.due("job", 1, x.job(0));
        }
    }

    private static void allOutOfRange() {
        Check.part("1 all numbers out of their ranges");
        GatedTrunk low = new GatedTrunk(LEAST, LEAST, LEAST, LEAST);
        for (int c = 0; c < 3; c++) {
            low.open();
            Check.yes("enqueue", low.enqueue(c));
        }
        run(low, 0, 0, true);
        Check.due("batch", 1, low.batch());
        low.claim(0);
        Check.due("tick", 1, low.tick(1));
        rejected(low, 1, 10);
        GatedTrunk high = new GatedTrunk(MOST, MOST, MOST, MOST);
        for (int c = 0; c < 10; c++) {
            high.open();
            high.approve(c, 0);
            high.approve(c, 1);
            Check.no("enqueue", high.enqueue(c));
            high.approve(c, 2);
            Check.yes("enqueue", high.enqueue(c));
        }
        run(high, 0, 0, true);
        Check.due("batch", 8, high.batch());
        for (int i = 0; i < 2; i++) {
            high.claim(0);
            Check.due("tick", 0, high.tick(8));
            Check.due("tick", 1, high.tick(1));
            Check.due("batch", 8, high.batch());
        }
        high.claim(0);
        Check.due("tick", 1, high.tick(9));
        Check.due("batch", 4, high.batch());
    }

    private static void sixteenChanges() {
        Check.part("2 open: NONE, refused, when 16 are there");
        GatedTrunk x = new GatedTrunk(0, 1, 0, 1);
        Check.due("state of none", -1, x.state(0));
        for (int c = 0; c < 16; c++) {
            Check.due("open", c, x.open());
            stateIs(x, c, 0);
            Check.due("state of the next", -1, x.state(c + 1));
        }
        Check.due("open of the 17th", -1, x.open());
        Check.due("open again", -1, x.open());
        Check.due("state of the 17th", -1, x.state(16));
        // Those that are closed, merged or rejected are there as well.
        x.close(15);
        x.enqueue(0);
        run(x, 0, 0, true);
        x.enqueue(1);
        run(x, 0, 0, false);
        Check.due("open when some are ended", -1, x.open());
        Check.yes("the last can be rebased", x.rebase(14));
    }

    private static void openIsTheTrunkAsItIs() {
        Check.part("2 open: base and own are the trunk as it is");
        GatedTrunk x = new GatedTrunk(0, 1, 0, 1);
        queued(x, 1, 5);
        x.open();
        run(x, 0, 0, true);
        x.open();
        treeIs(x, 1, 17, 0, 0, 0, 0, 0);
        treeIs(x, 2, 17, 5, 0, 0, 0, 0);
        // Both push 0 at path 1: nothing of its own for the first, from 5 to 0 for the second.
        x.push(1, 1, 0);
        x.push(2, 1, 0);
        x.enqueue(1);
        treeIs(x, -2, 17, 5, 0, 0, 0, 0);
        run(x, 0, 0, true);
        x.enqueue(2);
        treeIs(x, -2, 17, 0, 0, 0, 0, 0);
    }

    private static final String[] NAMES = {"push", "approve", "object", "close", "enqueue", "rebase"};
    private static final OfChange[] CALLS = {
        (x, c) -> x.push(c, 1, 1), (x, c) -> x.approve(c, 0), (x, c) -> x.object(c, 0),
        (x, c) -> x.close(c), (x, c) -> x.enqueue(c), (x, c) -> x.rebase(c)};

    private static void numbersOfChanges() {
        Check.part("3 to 8: refused when c is no change");
        for (int i = 0; i < CALLS.length; i++) {
            GatedTrunk none = new GatedTrunk(0, 1, 0, 1);
            GatedTrunk two = new GatedTrunk(0, 1, 0, 1);
            GatedTrunk full = new GatedTrunk(0, 1, 0, 1);
            two.open();
            two.open();
            for (int c = 0; c < 16; c++) {
                full.open();
            }
            int[] outside = {LEAST, -16, -2, -1, 16, 17, MOST};
            for (int c : outside) {
                Check.no(NAMES[i] + " of " + c + " of 0", CALLS[i].call(none, c));
                Check.no(NAMES[i] + " of " + c + " of 2", CALLS[i].call(two, c));
                Check.no(NAMES[i] + " of " + c + " of 16", CALLS[i].call(full, c));
            }
            Check.no(NAMES[i] + " of 0 of 0", CALLS[i].call(none, 0));
            Check.no(NAMES[i] + " of 2 of 2", CALLS[i].call(two, 2));
            Check.no(NAMES[i] + " of 15 of 2", CALLS[i].call(two, 15));
            Check.yes(NAMES[i] + " of 0 of 2", CALLS[i].call(two, 0));
            Check.yes(NAMES[i] + " of 1 of 2", CALLS[i].call(two, 1));
            Check.yes(NAMES[i] + " of 0 of 16", CALLS[i].call(full, 0));
            Check.yes(NAMES[i] + " of 15 of 16", CALLS[i].call(full, 15));
        }
    }

    /** Change 0 merged, 1 rejected, 2 closed, 3 queued and under test, 4 queued behind it, 5 open. */
    private static GatedTrunk oneOfEach() {
        GatedTrunk x = new GatedTrunk(0, 1, 0, 1);
        for (int c = 0; c < 6; c++) {
            x.open();
        }
        x.enqueue(0);
        run(x, 0, 0, true);
        x.enqueue(1);
        run(x, 0, 0, false);
        x.close(2);
        x.enqueue(3);
        x.enqueue(4);
        int[] states = {2, 3, 4, 1, 1, 0};
        for (int c = 0; c < 6; c++) {
            Check.due("state of " + c, states[c], x.state(c));
        }
        return x;
    }

    private static void stateAllows() {
        Check.part("3 to 8: refused when c is not OPEN, of close and rebase when not OPEN and not REJECTED");
        for (int i = 0; i < CALLS.length; i++) {
            boolean takesRejected = NAMES[i].equals("close") || NAMES[i].equals("rebase");
            for (int c = 0; c < 6; c++) {
                GatedTrunk x = oneOfEach();
                int before = x.state(c);
                int due = c == 5 || c == 1 && takesRejected ? 1 : 0;
                Check.due(NAMES[i] + " in state " + before, due, CALLS[i].call(x, c) ? 1 : 0);
                if (due == 0) {
                    Check.due("state after a refused " + NAMES[i], before, x.state(c));
                }
            }
        }
    }

    private static void pushEndsStandings() {
        Check.part("3 push: no reviewer stands for or against c any more");
        GatedTrunk x = new GatedTrunk(4, 1, 0, 1);
        x.open();
        x.open();
        for (int r = 0; r < 8; r++) {
            x.approve(0, r);
            x.object(1, r);
        }
        Check.yes("push", x.push(0, 1, 1));
        Check.due("standing", 0, x.standing(0));
        Check.due("standing of the other", 80, x.standing(1));
        Check.no("enqueue", x.enqueue(0));
        // What is pushed was there already: a push like any other.
        Check.yes("push of the same", x.push(1, 1, 0));
        Check.due("standing", 0, x.standing(1));
    }

    private static void contentOfPush() {
        Check.part("3 push: the content at a path becomes this one");
        GatedTrunk x = new GatedTrunk(0, 1, 0, 1);
        x.open();
        int[] contents = {LEAST, LEAST + 1, -1, 0, 1, MOST - 1, MOST};
        for (int content : contents) {
            Check.yes("push of " + content, x.push(0, 5, content));
            treeIs(x, 0, 17, 0, 0, 0, 0, content);
        }
        treeIs(x, -1, 17, 0, 0, 0, 0, 0);
    }

    private static void approveWhateverItDid() {
        Check.part("4 approve: whatever r did before");
        GatedTrunk x = new GatedTrunk(0, 1, 0, 1);
        x.open();
        Check.yes("after neither", x.approve(0, 3));
        Check.due("standing", 1, x.standing(0));
        Check.yes("after for", x.approve(0, 3));
        Check.due("standing", 1, x.standing(0));
        x.object(0, 3);
        Check.due("standing", 10, x.standing(0));
        Check.yes("after against", x.approve(0, 3));
        Check.due("standing", 1, x.standing(0));
    }

    private static void objectWhateverItDid() {
        Check.part("5 object: whatever r did before");
        GatedTrunk x = new GatedTrunk(0, 1, 0, 1);
        x.open();
        Check.yes("after neither", x.object(0, 3));
        Check.due("standing", 10, x.standing(0));
        Check.yes("after against", x.object(0, 3));
        Check.due("standing", 10, x.standing(0));
        x.approve(0, 3);
        Check.due("standing", 1, x.standing(0));
        Check.yes("after for", x.object(0, 3));
        Check.due("standing", 10, x.standing(0));
    }

    private static final int[] NO_REVIEWERS = {LEAST, -8, -1, 8, 9, 31, 32, MOST};

    private static void reviewersOfApprove() {
        Check.part("4 approve: refused when r is not 0 .. 7");
        GatedTrunk x = new GatedTrunk(0, 1, 0, 1);
        x.open();
        Check.yes("approve by 0", x.approve(0, 0));
        Check.yes("approve by 7", x.approve(0, 7));
        for (int r : NO_REVIEWERS) {
            Check.no("approve by " + r, x.approve(0, r));
        }
        Check.due("standing", 2, x.standing(0));
    }

    private static void reviewersOfObject() {
        Check.part("5 object: refused when r is not 0 .. 7");
        GatedTrunk x = new GatedTrunk(0, 1, 0, 1);
        x.open();
        Check.yes("object by 0", x.object(0, 0));
        Check.yes("object by 7", x.object(0, 7));
        for (int r : NO_REVIEWERS) {
            Check.no("object by " + r, x.object(0, r));
        }
        Check.due("standing", 20, x.standing(0));
    }

    private static void allReviewers() {
        Check.part("reviewers: 0 .. 7, each for, against, or neither");
        GatedTrunk x = new GatedTrunk(0, 1, 0, 1);
        x.open();
        for (int r = 0; r < 8; r++) {
            Check.yes("approve", x.approve(0, r));
            Check.due("standing", r + 1, x.standing(0));
        }
        int[] standings = {17, 26, 35, 44, 53, 62, 71, 80};
        for (int r = 0; r < 8; r++) {
            Check.yes("object", x.object(0, r));
            Check.due("standing", standings[r], x.standing(0));
        }
        x.push(0, 1, 1);
        Check.due("standing", 0, x.standing(0));
    }

    private static void closeOfRejected() {
        Check.part("6 close: of a change that is REJECTED");
        GatedTrunk x = oneOfEach();
        rejected(x, 1, 10);
        Check.yes("close", x.close(1));
        stateIs(x, 1, 4);
        Check.no("close again", x.close(1));
        Check.no("rebase", x.rebase(1));
        stateIs(x, 1, 4);
    }

    private static void fewerThanMust() {
        Check.part("7 enqueue: refused when fewer reviewers stand for it than must");
        for (int must = 0; must < 4; must++) {
            GatedTrunk x = new GatedTrunk(must, 8, 0, 1);
            for (int stand = 0; stand < 9; stand++) {
                x.open();
                for (int r = 0; r < stand; r++) {
                    x.approve(stand, 7 - r);
                }
                Check.due(stand + " of " + must, stand >= must ? 1 : 0, x.enqueue(stand) ? 1 : 0);
                stateIs(x, stand, stand >= must ? 1 : 0);
            }
        }
    }

    private static void oneStandsAgainst() {
        Check.part("7 enqueue: refused when one stands against it");
        for (int r = 0; r < 8; r++) {
            GatedTrunk x = new GatedTrunk(0, 1, 0, 1);
            x.open();
            x.object(0, r);
            Check.no("none stands for it, " + r + " against", x.enqueue(0));
            for (int other = 0; other < 8; other++) {
                if (other != r) {
                    x.approve(0, other);
                }
            }
            Check.due("standing", 17, x.standing(0));
            Check.no("all but one stand for it", x.enqueue(0));
            stateIs(x, 0, 0);
            x.approve(0, r);
            Check.yes("all stand for it", x.enqueue(0));
        }
    }

    private static void standingsGoWithTheChange() {
        Check.part("7 enqueue: reviewers stand for one change, not for all");
        GatedTrunk x = new GatedTrunk(1, 1, 0, 1);
        x.open();
        x.open();
        x.approve(0, 0);
        x.object(1, 1);
        Check.yes("stood for", x.enqueue(0));
        Check.no("stood against", x.enqueue(1));
        run(x, 0, 0, false);
        Check.due("standing of the rejected", 1, x.standing(0));
        x.rebase(0);
        Check.no("enqueue after the rebase", x.enqueue(0));
        x.approve(0, 0);
        Check.yes("enqueue", x.enqueue(0));
    }

    private static void rebaseOfAll() {
        Check.part("8 rebase: a change with its own content at each path");
        GatedTrunk x = new GatedTrunk(0, 1, 0, 1);
        x.open();
        int[] own = {49, LEAST, MOST, -1, 1, 2};
        for (int path = 0; path < 6; path++) {
            x.push(0, path, own[path]);
        }
        Check.yes("rebase onto its base", x.rebase(0));
        treeIs(x, 0, own);
        stateIs(x, 0, 0);
        opened(x, 5, 2);
        x.enqueue(1);
        run(x, 0, 0, true);
        // The trunk has the change's own content at path 5, its base elsewhere.
        Check.yes("rebase", x.rebase(0));
        treeIs(x, 0, own);
        opened(x, 5, 3);
        x.enqueue(2);
        run(x, 0, 0, true);
        // At path 5 own and base were both 2, so the trunk's 3 comes.
        Check.yes("rebase", x.rebase(0));
        treeIs(x, 0, 49, LEAST, MOST, -1, 1, 3);
        opened(x, 1, 7);
        x.enqueue(3);
        run(x, 0, 0, true);
        Check.no("rebase: path 1 conflicts", x.rebase(0));
        treeIs(x, 0, 49, LEAST, MOST, -1, 1, 3);
    }

    private static void rebaseOfNothing() {
        Check.part("8 rebase: a change with nothing of its own");
        GatedTrunk x = new GatedTrunk(0, 1, 0, 1);
        x.open();
        x.open();
        x.push(1, 0, 49);
        for (int path = 1; path < 6; path++) {
            x.push(1, path, path);
        }
        x.enqueue(1);
        run(x, 0, 0, true);
        Check.yes("rebase", x.rebase(0));
        treeIs(x, 0, 49, 1, 2, 3, 4, 5);
        Check.yes("rebase again", x.rebase(0));
        treeIs(x, 0, 49, 1, 2, 3, 4, 5);
    }

    private static void rebaseOfConflicting() {
        Check.part("8 rebase: refused when it conflicts with the trunk, not with another tree");
        GatedTrunk x = new GatedTrunk(0, 2, 0, 1);
        x.enqueue(x.open());
        queued(x, 1, 1);
        queued(x, 1, 2);
        run(x, 0, 0, true);
        // It conflicted with the batch's tree, which change 1 had made 1; the trunk has 0.
        rejected(x, 2, 1);
        Check.yes("rebase while the batch is under test", x.rebase(2));
        treeIs(x, 2, 17, 2, 0, 0, 0, 0);
        run(x, 0, 0, true);
        Check.no("rebase when the batch passed", x.rebase(2));
        stateIs(x, 2, 0);
        // The trunk goes back to what base is.
        queued(x, 1, 0);
        run(x, 0, 0, true);
        Check.yes("rebase when the trunk is as base again", x.rebase(2));
        treeIs(x, 2, 17, 2, 0, 0, 0, 0);
    }

    private static void rebaseEndsStandings() {
        Check.part("8 rebase: it is OPEN, and no reviewer stands for or against it any more");
        GatedTrunk x = new GatedTrunk(0, 1, 0, 1);
        x.open();
        x.approve(0, 0);
        x.object(0, 7);
        Check.yes("rebase of an open one", x.rebase(0));
        Check.due("standing", 0, x.standing(0));
        x.approve(0, 0);
        x.enqueue(0);
        run(x, 0, 0, false);
        rejected(x, 0, 10);
        Check.due("standing", 1, x.standing(0));
        Check.yes("rebase of a rejected one", x.rebase(0));
        stateIs(x, 0, 0);
        Check.due("standing", 0, x.standing(0));
        queueIs(x);
    }

    private static void rebaseMovesBase() {
        Check.part("8 rebase: the trunk becomes its base");
        GatedTrunk x = new GatedTrunk(0, 1, 0, 1);
        opened(x, 2, 8);
        queued(x, 1, 5);
        run(x, 0, 0, true);
        x.rebase(0);
        queued(x, 1, 6);
        run(x, 0, 0, true);
        // Base and own are both 5 at path 1: the trunk's 6 stays.
        x.enqueue(0);
        treeIs(x, -2, 17, 6, 8, 0, 0, 0);
        run(x, 0, 0, false);
        x.rebase(0);
        x.push(0, 1, 5);
        x.enqueue(0);
        treeIs(x, -2, 17, 5, 8, 0, 0, 0);
    }
}
