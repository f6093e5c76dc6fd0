/** The edges of promises 14 to 21: what is looked at, and what is not there. */
public final class LooksEdgeTest extends Steps {
    public static void main(String[] args) {
        stateOfNone();
        eachState();
        causeOfNone();
        eachCause();
        causeIsGone();
        standingOfNone();
        standingOfAll();
        standingStays();
        treesOfFile();
        pathsOfFile();
        fileOfTheBatch();
        ownTreesStay();
        placesOfTheQueue();
        placesOfAFullQueue();
        membersOfTheBatch();
        jobsThatAreThere();
        jobsOfNone();
        eachJobState();
        versions();
        looksChangeNothing();
        Check.finish();
    }

    private static GatedTrunk withChanges(int changes) {
        GatedTrunk x = new GatedTrunk(0, 1, 0, 1);
        for (int c = 0; c < changes; c++) {
            x.open();
        }
        return x;
    }

    private static final int[] NEVER = {LEAST, -16, -2, -1, 16, 17, MOST};

    private static void stateOfNone() {
        Check.part("14 state: NONE when there is none");
        GatedTrunk none = withChanges(0);
        GatedTrunk one = withChanges(1);
        GatedTrunk all = withChanges(16);
        for (int c : NEVER) {
            Check.due("state(" + c + ") of 0", -1, none.state(c));
            Check.due("state(" + c + ") of 1", -1, one.state(c));
            Check.due("state(" + c + ") of 16", -1, all.state(c));
        }
        Check.due("state(0) of 0", -1, none.state(0));
        Check.due("state(0) of 1", 0, one.state(0));
        Check.due("state(1) of 1", -1, one.state(1));
        Check.due("state(15) of 1", -1, one.state(15));
        Check.due("state(0) of 16", 0, all.state(0));
        Check.due("state(15) of 16", 0, all.state(15));
    }

    private static void eachState() {
        Check.part("14 state: OPEN 0, QUEUED 1, MERGED 2, REJECTED 3, CLOSED 4");
        GatedTrunk x = withChanges(16);
        Check.due("open", 0, x.state(15));
        x.enqueue(15);
        Check.due("queued, under test", 1, x.state(15));
        x.enqueue(14);
        Check.due("queued, behind it", 1, x.state(14));
        run(x, 0, 0, true);
        Check.due("merged", 2, x.state(15));
        run(x, 0, 0, false);
        Check.due("rejected", 3, x.state(14));
        x.rebase(14);
        Check.due("open again", 0, x.state(14));
        x.close(14);
        Check.due("closed", 4, x.state(14));
    }

    private static void causeOfNone() {
        Check.part("15 cause: NONE when there is none");
        GatedTrunk none = withChanges(0);
        GatedTrunk one = withChanges(1);
        GatedTrunk all = withChanges(16);
        for (int c : NEVER) {
            Check.due("cause(" + c + ") of 0", -1, none.cause(c));
            Check.due("cause(" + c + ") of 1", -1, one.cause(c));
            Check.due("cause(" + c + ") of 16", -1, all.cause(c));
        }
        Check.due("cause(0) of 0", -1, none.cause(0));
        Check.due("cause(0) of 1", 0, one.cause(0));
        Check.due("cause(1) of 1", -1, one.cause(1));
        Check.due("cause(15) of 16", 0, all.cause(15));
    }

    private static void eachCause() {
        Check.part("15 cause: 1, 2, and 10 to 13");
        GatedTrunk x = new GatedTrunk(0, 1, 0, 1);
        opened(x, 1, 1);
        opened(x, 1, 2);
        x.enqueue(0);
        run(x, 0, 0, true);
        x.enqueue(1);
        Check.due("conflict", 1, x.cause(1));
        queued(x, 0, 0);
        Check.due("pipeline", 2, x.cause(2));
        for (int j = 0; j < 4; j++) {
            queued(x, 0, 17 << j);
            run(x, 0, j, false);
            Check.due("job " + j, 10 + j, x.cause(3 + j));
        }
    }

    private static void causeIsGone() {
        Check.part("15 cause: 0 when it is not REJECTED");
        GatedTrunk x = withChanges(3);
        for (int c = 0; c < 3; c++) {
            x.enqueue(c);
            Check.due("queued", 0, x.cause(c));
            run(x, 0, 0, false);
            Check.due("rejected", 10, x.cause(c));
        }
        x.close(0);
        Check.due("closed", 0, x.cause(0));
        x.rebase(1);
        Check.due("open", 0, x.cause(1));
        x.enqueue(1);
        Check.due("queued", 0, x.cause(1));
        run(x, 0, 0, true);
        Check.due("merged", 0, x.cause(1));
        Check.due("rejected yet", 10, x.cause(2));
    }

    private static void standingOfNone() {
        Check.part("16 standing: NONE when there is none");
        GatedTrunk none = withChanges(0);
        GatedTrunk one = withChanges(1);
        GatedTrunk all = withChanges(16);
        for (int c : NEVER) {
            Check.due("standing(" + c + ") of 0", -1, none.standing(c));
            Check.due("standing(" + c + ") of 1", -1, one.standing(c));
            Check.due("standing(" + c + ") of 16", -1, all.standing(c));
        }
        Check.due("standing(0) of 0", -1, none.standing(0));
        Check.due("standing(0) of 1", 0, one.standing(0));
        Check.due("standing(1) of 1", -1, one.standing(1));
        Check.due("standing(15) of 16", 0, all.standing(15));
    }

    private static void standingOfAll() {
        Check.part("16 standing: 1 for each that stands for it, and 10 for each against");
        for (int against = 0; against < 9; against++) {
            GatedTrunk x = withChanges(2);
            for (int r = 0; r < 8; r++) {
                if (r < against) {
                    x.object(1, r);
                }
            }
            Check.due(against + " against", 10 * against, x.standing(1));
            for (int r = against; r < 8; r++) {
                x.approve(1, r);
            }
            Check.due(against + " against, the others for it", 10 * against + 8 - against, x.standing(1));
            Check.due("the other change", 0, x.standing(0));
        }
    }

    private static void standingStays() {
        Check.part("16 standing: of a change that is not OPEN");
        GatedTrunk x = withChanges(3);
        for (int c = 0; c < 3; c++) {
            x.approve(c, 0);
            x.approve(c, 7);
        }
        x.enqueue(0);
        Check.due("queued", 2, x.standing(0));
        run(x, 0, 0, true);
        Check.due("merged", 2, x.standing(0));
        x.enqueue(1);
        run(x, 0, 0, false);
        Check.due("rejected", 2, x.standing(1));
        x.close(1);
        Check.due("closed", 2, x.standing(1));
        x.object(2, 7);
        x.close(2);
        Check.due("closed", 11, x.standing(2));
    }

    private static void treesOfFile() {
        Check.part("17 file: 0 when there is no such tree");
        GatedTrunk none = withChanges(0);
        GatedTrunk one = withChanges(1);
        GatedTrunk all = withChanges(16);
        int[] noTree = {LEAST, -17, -4, -3, 16, 17, MOST};
        for (int which : noTree) {
            for (int path = 0; path < 6; path++) {
                Check.due("file(" + which + ", " + path + ") of 0", 0, none.file(which, path));
                Check.due("file(" + which + ", " + path + ") of 1", 0, one.file(which, path));
                Check.due("file(" + which + ", " + path + ") of 16", 0, all.file(which, path));
            }
        }
        treeIs(none, -1, 17, 0, 0, 0, 0, 0);
        treeIs(none, 0, 0, 0, 0, 0, 0, 0);
        treeIs(one, 0, 17, 0, 0, 0, 0, 0);
        treeIs(one, 1, 0, 0, 0, 0, 0, 0);
        treeIs(one, 15, 0, 0, 0, 0, 0, 0);
        treeIs(all, 15, 17, 0, 0, 0, 0, 0);
    }

    private static void pathsOfFile() {
        Check.part("17 file: 0 when there is no such path");
        GatedTrunk x = new GatedTrunk(0, 1, 0, 1);
        int[] contents = {17, 21, 22, 23, 24, 25};
        for (int i = 0; i < 2; i++) {
            x.open();
            for (int path = 1; path < 6; path++) {
                x.push(i, path, contents[path]);
            }
            x.enqueue(i);
            if (i == 0) {
                run(x, 0, 0, true);
            }
        }
        int[] noPath = {LEAST, -6, -2, -1, 6, 7, MOST};
        for (int which = -2; which < 2; which++) {
            treeIs(x, which, contents);
            for (int path : noPath) {
                Check.due("file(" + which + ", " + path + ")", 0, x.file(which, path));
            }
        }
        Check.due("neither tree nor path", 0, x.file(LEAST, LEAST));
        Check.due("neither tree nor path", 0, x.file(MOST, MOST));
    }

    private static void fileOfTheBatch() {
        Check.part("17 file: -2 is the tree of the batch under test");
        GatedTrunk x = new GatedTrunk(0, 1, 0, 1);
        treeIs(x, -2, 0, 0, 0, 0, 0, 0);
        queued(x, 1, 5);
        treeIs(x, -2, 17, 5, 0, 0, 0, 0);
        run(x, 0, 0, true);
        treeIs(x, -2, 0, 0, 0, 0, 0, 0);
        queued(x, 2, 6);
        treeIs(x, -2, 17, 5, 6, 0, 0, 0);
        run(x, 0, 0, false);
        treeIs(x, -2, 0, 0, 0, 0, 0, 0);
        // A batch that is not valid is never under test.
        queued(x, 0, LEAST);
        treeIs(x, -2, 0, 0, 0, 0, 0, 0);
        treeIs(x, -1, 17, 5, 0, 0, 0, 0);
    }

    private static void ownTreesStay() {
        Check.part("17 file: the own tree of a change, whatever its state");
        GatedTrunk x = new GatedTrunk(0, 1, 0, 1);
        for (int c = 0; c < 4; c++) {
            opened(x, 1 + c, 9);
        }
        x.enqueue(0);
        treeIs(x, 0, 17, 9, 0, 0, 0, 0);
        run(x, 0, 0, true);
        x.enqueue(1);
        treeIs(x, 1, 17, 0, 9, 0, 0, 0);
        run(x, 0, 0, false);
        x.close(2);
        treeIs(x, 0, 17, 9, 0, 0, 0, 0);
        treeIs(x, 1, 17, 0, 9, 0, 0, 0);
        treeIs(x, 2, 17, 0, 0, 9, 0, 0);
        treeIs(x, 3, 17, 0, 0, 0, 9, 0);
    }

    private static void placesOfTheQueue() {
        Check.part("18 queueAt: NONE when there is no such place");
        GatedTrunk x = withChanges(3);
        int[] noPlace = {LEAST, -16, -2, -1, 0, 1, 15, 16, MOST};
        for (int k : noPlace) {
            Check.due("queueAt(" + k + ") of an empty queue", -1, x.queueAt(k));
        }
        x.enqueue(2);
        queueIs(x, 2);
        x.enqueue(0);
        queueIs(x, 2, 0);
        int[] noneOfTwo = {LEAST, -1, 2, 15, 16, MOST};
        for (int k : noneOfTwo) {
            Check.due("queueAt(" + k + ") of two", -1, x.queueAt(k));
        }
        run(x, 0, 0, true);
        queueIs(x, 0);
        Check.due("queueAt(1)", -1, x.queueAt(1));
        run(x, 0, 0, true);
        for (int k : noPlace) {
            Check.due("queueAt(" + k + ") of a queue that is empty again", -1, x.queueAt(k));
        }
    }

    private static void placesOfAFullQueue() {
        Check.part("18 queueAt: the change at place k, of 16");
        GatedTrunk x = withChanges(16);
        for (int c = 15; c >= 0; c--) {
            Check.yes("enqueue", x.enqueue(c));
        }
        for (int k = 0; k < 16; k++) {
            Check.due("queueAt(" + k + ")", 15 - k, x.queueAt(k));
        }
        int[] noPlace = {LEAST, -1, 16, 17, MOST};
        for (int k : noPlace) {
            Check.due("queueAt(" + k + ")", -1, x.queueAt(k));
        }
    }

    private static void membersOfTheBatch() {
        Check.part("19 batch: how many members, 0 when none is under test");
        Check.due("of a new object", 0, new GatedTrunk(0, 8, 0, 1).batch());
        for (int members = 1; members < 9; members++) {
            GatedTrunk x = withQueue(8, 0, 1 + members);
            Check.due("batch", 1, x.batch());
            run(x, 0, 0, true);
            Check.due("batch", members, x.batch());
            run(x, 0, 0, true);
            Check.due("batch", 0, x.batch());
        }
    }

    private static final int[] NO_JOBS = {LEAST, -4, -1, 4, 5, MOST};

    private static void jobsThatAreThere() {
        Check.part("20 job: 0 when there is no such job");
        GatedTrunk x = underTest(FOUR, 0, 1);
        jobsAre(x, 1, 1, 1, 1);
        for (int j : NO_JOBS) {
            Check.due("job(" + j + ")", 0, x.job(j));
        }
        GatedTrunk y = underTest(136, 0, 1);
        jobsAre(y, 0, 0, 0, 1);
        y.claim(0);
        jobsAre(y, 0, 0, 0, 10);
        for (int j : NO_JOBS) {
            Check.due("job(" + j + ")", 0, y.job(j));
        }
    }

    private static void jobsOfNone() {
        Check.part("20 job: 0 when no batch is under test");
        GatedTrunk x = new GatedTrunk(0, 1, 0, 1);
        jobsAre(x, 0, 0, 0, 0);
        queued(x, 0, FOUR);
        jobsAre(x, 1, 1, 1, 1);
        x.claim(3);
        x.claim(2);
        x.report(3, false);
        jobsAre(x, 0, 0, 0, 0);
        queued(x, 0, FOUR);
        for (int j = 0; j < 4; j++) {
            run(x, 0, j, true);
        }
        Check.due("version", 1, x.version());
        jobsAre(x, 0, 0, 0, 0);
        for (int j : NO_JOBS) {
            Check.due("job(" + j + ")", 0, x.job(j));
        }
    }

    private static void eachJobState() {
        Check.part("20 job: 1 WAITING, 2 PASSED, 3 FAILED, 10 + w LEASED to worker w");
        GatedTrunk x = underTest(15 | 128, 0, 9);
        run(x, 0, 0, true);
        run(x, 0, 1, false);
        x.flush();
        for (int w = 0; w < 4; w++) {
            jobsAre(x, 2, 3, 1, 1);
            Check.due("claim", 2, x.claim(w));
            jobsAre(x, 2, 3, 10 + w, 1);
            // The claim does not survive.
            x.crash(0);
        }
        for (int w = 3; w > 1; w--) {
            x.claim(w);
        }
        jobsAre(x, 2, 3, 13, 12);
    }

    private static void versions() {
        Check.part("21 version: of the trunk, from 0 to 16");
        GatedTrunk x = withQueue(1, 0, 16);
        for (int version = 0; version < 16; version++) {
            Check.due("version", version, x.version());
            run(x, 0, 0, true);
        }
        Check.due("version", 16, x.version());
        GatedTrunk y = withQueue(1, 0, 2);
        run(y, 0, 0, false);
        Check.due("version after a failed batch", 0, y.version());
    }

    private static void looksChangeNothing() {
        Check.part("14 to 21: looking changes nothing");
        GatedTrunk x = withQueue(2, 0, 4);
        x.claim(3);
        String seen = looks(x, 4);
        Check.yes("the same again", seen.equals(looks(x, 4)));
        int[] strange = {LEAST, -3, 4, 6, 16, MOST};
        for (int number : strange) {
            x.state(number);
            x.cause(number);
            x.standing(number);
            x.file(number, number);
            x.queueAt(number);
            x.job(number);
        }
        Check.yes("the same again", seen.equals(looks(x, 4)));
        Check.due("flush", 9, x.flush());
    }
}
