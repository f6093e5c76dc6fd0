/** Numbers, steps and looks that several tests share. */
abstract class Steps {
    static final int LEAST = Integer.MIN_VALUE;
    static final int MOST = Integer.MAX_VALUE;
    /** Jobs 0, 1, 2 there; 2 is required; 2 needs 1, 1 needs 0. */
    static final int CHAIN = 0b0111 | 0b0100 << 4 | needs(2, 1) | needs(1, 0);
    /** All four jobs there and required, none needs another. */
    static final int FOUR = 0b1111 | 0b1111 << 4;

    static int needs(int j, int k) {
        return 1 << 8 + 4 * j + k;
    }

    /** Opens a change that sets one content. */
    static int opened(GatedTrunk x, int path, int content) {
        int c = x.open();
        Check.yes("push of a new change", x.push(c, path, content));
        return c;
    }

    static int queued(GatedTrunk x, int path, int content) {
        int c = opened(x, path, content);
        Check.yes("enqueue of a new change", x.enqueue(c));
        return c;
    }

    /** So many changes with nothing of their own, all queued; the first is alone in the batch under test. */
    static GatedTrunk withQueue(int batch, int retries, int changes) {
        GatedTrunk x = new GatedTrunk(0, batch, retries, 1);
        for (int c = 0; c < changes; c++) {
            x.open();
            Check.yes("enqueue of " + c, x.enqueue(c));
        }
        return x;
    }

    /** One change alone, under test with this pipeline. */
    static GatedTrunk underTest(int pipeline, int retries, int lease) {
        GatedTrunk x = new GatedTrunk(0, 1, retries, lease);
        queued(x, 0, pipeline);
        return x;
    }

    /** The trunk has 9 at path 1, change 3 is under test; change 1, which is open, goes from 5 to 7 there. */
    static GatedTrunk fromFiveToSeven(int batch) {
        GatedTrunk x = new GatedTrunk(0, batch, 0, 1);
        queued(x, 1, 5);
        run(x, 0, 0, true);
        opened(x, 1, 7);
        queued(x, 1, 9);
        run(x, 0, 0, true);
        x.enqueue(x.open());
        return x;
    }

    static void ticks(GatedTrunk x, int times) {
        for (int i = 0; i < times; i++) {
            Check.due("tick(1)", 0, x.tick(1));
        }
    }

    static void run(GatedTrunk x, int worker, int job, boolean passed) {
        Check.due("claim", job, x.claim(worker));
        Check.yes("report", x.report(worker, passed));
    }

    static void rejected(GatedTrunk x, int c, int cause) {
        Check.due("state of the rejected " + c, 3, x.state(c));
        Check.due("cause of the rejected " + c, cause, x.cause(c));
    }

    static void stateIs(GatedTrunk x, int c, int state) {
        Check.due("state of " + c, state, x.state(c));
        Check.due("cause of " + c, 0, x.cause(c));
    }

    static void treeIs(GatedTrunk x, int which, int... contents) {
        for (int path = 0; path < 6; path++) {
            Check.due("file(" + which + ", " + path + ")", contents[path], x.file(which, path));
        }
    }

    /** The queue is these, and no more. */
    static void queueIs(GatedTrunk x, int... changes) {
        for (int k = 0; k < changes.length; k++) {
            Check.due("queueAt(" + k + ")", changes[k], x.queueAt(k));
        }
        Check.due("queueAt(" + changes.length + ")", -1, x.queueAt(changes.length));
    }

    static void jobsAre(GatedTrunk x, int... jobs) {
        for (int j = 0; j < 4; j++) {
            Check.due("job(" + j + ")", jobs[j], x.job(j));
        }
    }

    /** All that can be seen of an object with so many changes, as one text. */
    static String looks(GatedTrunk x, int changes) {
        StringBuilder seen = new StringBuilder();
        for (int which = -2; which < changes; which++) {
            seen.append(which).append(':');
            for (int path = 0; path < 6; path++) {
                seen.append(' ').append(x.file(which, path));
            }
            seen.append('\n');
        }
        for (int c = 0; c <= changes; c++) {
            seen.append(x.state(c)).append(' ').append(x.cause(c)).append(' ').append(x.standing(c)).append(' ');
            seen.append(x.queueAt(c)).append('\n');
        }
        for (int j = 0; j < 4; j++) {
            seen.append(x.job(j)).append(' ');
        }
        return seen.append(x.batch()).append(' ').append(x.version()).toString();
    }
}
