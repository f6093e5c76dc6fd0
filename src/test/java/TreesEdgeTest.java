/** The edges of "Trees": contents, paths, the first trunk, and merging path by path. */
public final class TreesEdgeTest extends Steps {
    public static void main(String[] args) {
        contentIsAnyInt();
        pathsAreSix();
        theFirstTrunk();
        ownAndBaseTheSame();
        treeIsThatOfBase();
        treeIsThatOfOwn();
        otherwiseConflicts();
        conflictAtEachPath();
        conflictAsItIsByThen();
        noConflictAsItIsByThen();
        Check.finish();
    }

    private static void contentIsAnyInt() {
        Check.part("trees: a content is any int");
        GatedTrunk x = new GatedTrunk(0, 1, 0, 1);
        x.open();
        int[] contents = {17, LEAST, MOST, -1, 1, 0};
        for (int path = 1; path < 6; path++) {
            Check.yes("push of " + contents[path], x.push(0, path, contents[path]));
        }
        treeIs(x, 0, contents);
        x.enqueue(0);
        treeIs(x, -2, contents);
        run(x, 0, 0, true);
        treeIs(x, -1, contents);
        x.open();
        x.push(1, 1, MOST);
        x.push(1, 2, LEAST);
        x.push(1, 3, 0);
        x.enqueue(1);
        treeIs(x, -2, 17, MOST, LEAST, 0, 1, 0);
        run(x, 0, 0, true);
        treeIs(x, -1, 17, MOST, LEAST, 0, 1, 0);
        x.open();
        int[] pipelines = {LEAST, MOST, -1, 0};
        for (int pipeline : pipelines) {
            Check.yes("push at path 0 of " + pipeline, x.push(2, 0, pipeline));
            Check.due("file(2, 0)", pipeline, x.file(2, 0));
        }
    }

    private static void pathsAreSix() {
        Check.part("trees: the paths are 0 .. 5");
        GatedTrunk x = new GatedTrunk(0, 1, 0, 1);
        x.open();
        for (int path = 0; path < 6; path++) {
            Check.yes("push at " + path, x.push(0, path, 100 + path));
        }
        treeIs(x, 0, 100, 101, 102, 103, 104, 105);
        int[] noPaths = {LEAST, -6, -1, 6, 7, MOST};
        for (int path : noPaths) {
            Check.no("push at " + path, x.push(0, path, 9));
        }
        treeIs(x, 0, 100, 101, 102, 103, 104, 105);
    }

    private static void theFirstTrunk() {
        Check.part("trees: at first 17 at path 0 and 0 elsewhere; its version is 0");
        GatedTrunk x = new GatedTrunk(3, 8, 2, 9);
        treeIs(x, -1, 17, 0, 0, 0, 0, 0);
        Check.due("version", 0, x.version());
        x.open();
        treeIs(x, 0, 17, 0, 0, 0, 0, 0);
    }

    private static void ownAndBaseTheSame() {
        Check.part("trees: where own and base are the same, the tree's content stays");
        GatedTrunk x = new GatedTrunk(0, 1, 0, 1);
        opened(x, 1, 4);
        opened(x, 3, 9);
        opened(x, 2, 8);
        // Pushed away and back again, own and base are the same.
        x.push(2, 3, 6);
        x.push(2, 3, 0);
        x.enqueue(0);
        x.enqueue(1);
        x.enqueue(2);
        run(x, 0, 0, true);
        run(x, 0, 0, true);
        treeIs(x, -1, 17, 4, 0, 9, 0, 0);
        treeIs(x, -2, 17, 4, 8, 9, 0, 0);
        stateIs(x, 2, 1);
    }

    private static void treeIsThatOfBase() {
        Check.part("trees: if the tree's content is that of base, it becomes that of own");
        GatedTrunk x = new GatedTrunk(0, 1, 0, 1);
        opened(x, 1, 5);
        queued(x, 1, 3);
        run(x, 0, 0, true);
        queued(x, 1, 0);
        run(x, 0, 0, true);
        // The trunk went from 0 to 3 and back to 0, which is base again.
        x.enqueue(0);
        treeIs(x, -2, 17, 5, 0, 0, 0, 0);
        run(x, 0, 0, true);
        treeIs(x, -1, 17, 5, 0, 0, 0, 0);
    }

    private static void treeIsThatOfOwn() {
        Check.part("trees: if the tree's content is that of own, it becomes that of own");
        GatedTrunk x = new GatedTrunk(0, 2, 0, 1);
        opened(x, 1, LEAST);
        x.push(0, 2, 2);
        queued(x, 1, LEAST);
        run(x, 0, 0, true);
        x.enqueue(0);
        Check.due("batch", 1, x.batch());
        treeIs(x, -2, 17, LEAST, 2, 0, 0, 0);
        opened(x, 3, 7);
        opened(x, 3, 7);
        x.enqueue(2);
        x.enqueue(3);
        run(x, 0, 0, true);
        // The second finds its own content there by the first, in one batch.
        Check.due("batch", 2, x.batch());
        treeIs(x, -2, 17, LEAST, 2, 7, 0, 0);
    }

    private static void otherwiseConflicts() {
        Check.part("trees: otherwise the change conflicts with the tree");
        int[][] rows = {{1, 2}, {1, -1}, {LEAST, MOST}, {MOST, LEAST}, {-1, 1}, {LEAST, LEAST + 1}, {MOST, MOST - 1}};
        for (int[] row : rows) {
            GatedTrunk x = new GatedTrunk(0, 1, 0, 1);
            opened(x, 1, row[0]);
            opened(x, 1, row[1]);
            x.enqueue(0);
            run(x, 0, 0, true);
            Check.yes("enqueue", x.enqueue(1));
            rejected(x, 1, 1);
            Check.due("batch", 0, x.batch());
            queueIs(x);
            treeIs(x, -1, 17, row[0], 0, 0, 0, 0);
        }
        // Own is the trunk's content of before, which is neither base nor what is there now.
        GatedTrunk y = new GatedTrunk(0, 1, 0, 1);
        queued(y, 1, 1);
        run(y, 0, 0, true);
        opened(y, 1, 0);
        queued(y, 1, 2);
        run(y, 0, 0, true);
        y.enqueue(1);
        rejected(y, 1, 1);
    }

    private static void conflictAtEachPath() {
        Check.part("trees: a change that conflicts is not merged at any path");
        // 49 and 81 are pipelines like 17, so that they may stand at path 0 as well.
        for (int path = 0; path < 6; path++) {
            GatedTrunk x = new GatedTrunk(0, 1, 0, 1);
            int[] trunk = {17, 0, 0, 0, 0, 0};
            trunk[path] = 49;
            int[] own = {100, 101, 102, 103, 104, 105};
            own[path] = 81;
            opened(x, path, 49);
            x.open();
            for (int other = 0; other < 6; other++) {
                x.push(1, other, own[other]);
            }
            x.open();
            x.enqueue(0);
            x.enqueue(1);
            x.enqueue(2);
            run(x, 0, 0, true);
            rejected(x, 1, 1);
            queueIs(x, 2);
            treeIs(x, -1, trunk);
            treeIs(x, -2, trunk);
            Check.no("rebase", x.rebase(1));
            treeIs(x, 1, own);
        }
    }

    private static void conflictAsItIsByThen() {
        Check.part("queue: one that conflicts with the tree as it is by then");
        GatedTrunk x = new GatedTrunk(0, 4, 0, 1);
        x.enqueue(x.open());
        queued(x, 1, 1);
        queued(x, 1, 2);
        opened(x, 1, 1);
        x.push(3, 2, 3);
        x.enqueue(3);
        run(x, 0, 0, true);
        // The trunk has 0 there yet, but change 1 before it made it 1.
        rejected(x, 2, 1);
        Check.due("batch", 2, x.batch());
        queueIs(x, 1, 3);
        treeIs(x, -1, 17, 0, 0, 0, 0, 0);
        treeIs(x, -2, 17, 1, 3, 0, 0, 0);
    }

    private static void noConflictAsItIsByThen() {
        Check.part("queue: one that conflicts with the trunk, but not with the tree as it is by then");
        GatedTrunk x = fromFiveToSeven(2);
        queued(x, 1, 5);
        // From 5 to 7, where the trunk has 9.
        x.enqueue(1);
        run(x, 0, 0, true);
        Check.due("batch", 2, x.batch());
        queueIs(x, 4, 1);
        treeIs(x, -2, 17, 7, 0, 0, 0, 0);
        run(x, 0, 0, true);
        treeIs(x, -1, 17, 7, 0, 0, 0, 0);
    }
}
