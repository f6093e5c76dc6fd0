/** The edges of "The pipeline": each bit of it, and what makes it valid. */
public final class PipelineEdgeTest extends Steps {
    private static final int[][] CIRCLES = {
        {0, 1}, {0, 2}, {0, 3}, {1, 2}, {1, 3}, {2, 3},
        {0, 1, 2}, {0, 2, 1}, {0, 1, 3}, {0, 3, 1}, {0, 2, 3}, {0, 3, 2}, {1, 2, 3}, {1, 3, 2},
        {0, 1, 2, 3}, {0, 1, 3, 2}, {0, 2, 1, 3}, {0, 2, 3, 1}, {0, 3, 1, 2}, {0, 3, 2, 1},
    };

    public static void main(String[] args) {
        eachJobAlone();
        requiredOnlyIfThere();
        someJobIsRequired();
        eachNeed();
        needsAllOthers();
        needsOneThatIsNotThere();
        absentMayNeedAnything();
        needsItself();
        circles();
        circleOfOthersThanTheRequired();
        waysWithoutACircle();
        higherBits();
        leastAndGreatest();
        Check.finish();
    }

    private static int there(int j) {
        return 1 << j;
    }

    private static int required(int j) {
        return there(j) | 1 << 4 + j;
    }

    private static int otherThan(int j, int k) {
        int other = 0;
        while (other == j || other == k) {
            other++;
        }
        return other;
    }

    private static void invalid(int pipeline) {
        GatedTrunk x = underTest(pipeline, 0, 1);
        rejected(x, 0, 2);
        Check.due("batch of " + pipeline, 0, x.batch());
        queueIs(x);
        jobsAre(x, 0, 0, 0, 0);
    }

    private static void valid(int pipeline, int... jobs) {
        GatedTrunk x = underTest(pipeline, 0, 1);
        stateIs(x, 0, 1);
        Check.due("batch of " + pipeline, 1, x.batch());
        Check.due("file(-2, 0)", pipeline, x.file(-2, 0));
        jobsAre(x, jobs);
    }

    private static void eachJobAlone() {
        Check.part("pipeline: job j is there if p has the bit worth 2^j");
        int[][] jobs = {{1, 0, 0, 0}, {0, 1, 0, 0}, {0, 0, 1, 0}, {0, 0, 0, 1}};
        int[] pipelines = {17, 34, 68, 136};
        for (int j = 0; j < 4; j++) {
            valid(pipelines[j], jobs[j]);
            GatedTrunk x = underTest(pipelines[j], 0, 1);
            run(x, 3, j, true);
            Check.due("version", 1, x.version());
        }
        valid(FOUR, 1, 1, 1, 1);
    }

    private static void requiredOnlyIfThere() {
        Check.part("pipeline: required if it is there and p has the bit worth 2^(4 + j)");
        for (int j = 0; j < 4; j++) {
            invalid(16 << j);
            int k = (j + 1) % 4;
            invalid(16 << j | there(k));
            // Without job j there the batch passes by job k alone.
            GatedTrunk x = underTest(16 << j | required(k), 0, 1);
            run(x, 0, k, true);
            Check.due("version without job " + j, 1, x.version());
            // With job j there and its bit missing too, with the bit not.
            GatedTrunk y = underTest(FOUR & ~(16 << j), 0, 9);
            GatedTrunk z = underTest(FOUR, 0, 9);
            for (int w = 0; w < 4; w++) {
                y.claim(w);
                z.claim(w);
            }
            for (int w = 0; w < 4; w++) {
                if (w != j) {
                    y.report(w, true);
                    z.report(w, true);
                }
            }
            Check.due("version when job " + j + " is not required", 1, y.version());
            Check.due("version when job " + j + " is required", 0, z.version());
        }
    }

    private static void someJobIsRequired() {
        Check.part("pipeline: valid when some job is required");
        for (int pipeline = 0; pipeline < 16; pipeline++) {
            invalid(pipeline);
        }
        invalid(0xF0);
        valid(15 | 16, 1, 1, 1, 1);
        valid(15 | 128, 1, 1, 1, 1);
    }

    private static void eachNeed() {
        Check.part("pipeline: job j needs job k if p has the bit worth 2^(8 + 4 * j + k)");
        for (int j = 0; j < 4; j++) {
            for (int k = 0; k < 4; k++) {
                if (j != k) {
                    needOf(j, k);
                }
            }
        }
        // The first and the last of these bits in plain numbers: 1 needs 0, and 3 needs 2.
        GatedTrunk x = underTest(3 + 48 + 4096, 0, 9);
        Check.due("claim", 0, x.claim(0));
        Check.due("claim", -1, x.claim(1));
        GatedTrunk y = underTest(12 + 192 + 4194304, 0, 9);
        Check.due("claim", 2, y.claim(0));
        Check.due("claim", -1, y.claim(1));
    }

    private static void needOf(int j, int k) {
        GatedTrunk x = underTest(FOUR | needs(j, k), 0, 9);
        int worker = 0;
        for (int job = 0; job < 4; job++) {
            if (job != j) {
                Check.due(j + " needs " + k + ": claim", job, x.claim(worker));
                worker++;
            }
        }
        Check.due(j + " needs " + k + ": claim before", -1, x.claim(3));
        for (int w = 0; w < 3; w++) {
            if (x.job(k) == 10 + w) {
                Check.yes("report", x.report(w, true));
            }
        }
        Check.due(j + " needs " + k + ": claim after", j, x.claim(3));
    }

    private static void needsAllOthers() {
        Check.part("pipeline: a job that needs all the others");
        GatedTrunk x = underTest(FOUR | needs(0, 1) | needs(0, 2) | needs(0, 3), 0, 9);
        for (int j = 1; j < 4; j++) {
            run(x, 0, j, true);
        }
        run(x, 0, 0, true);
        Check.due("version", 1, x.version());
    }

    private static void needsOneThatIsNotThere() {
        Check.part("pipeline: no job that is there needs one that is not");
        for (int j = 0; j < 4; j++) {
            for (int k = 0; k < 4; k++) {
                if (j != k) {
                    invalid(required(j) | needs(j, k));
                    invalid(FOUR & ~there(k) | needs(j, k));
                    // It is not the required job that needs it.
                    invalid(required(otherThan(j, k)) | there(j) | needs(j, k));
                }
            }
        }
    }

    private static void absentMayNeedAnything() {
        Check.part("pipeline: what is not there may need anything");
        for (int j = 0; j < 4; j++) {
            int rest = 15 & ~there(j);
            int all = needs(j, 0) | needs(j, 1) | needs(j, 2) | needs(j, 3);
            int[] jobs = {1, 1, 1, 1};
            jobs[j] = 0;
            valid(rest | 0xF0 | needs(j, j), jobs);
            valid(rest | 0xF0 | all, jobs);
        }
        // Jobs 1, 2 and 3 are not there: their needs, a circle among them too, count for nothing.
        valid(17 | 0xFFF000, 1, 0, 0, 0);
        GatedTrunk x = underTest(17 | 0xFFF000, 0, 1);
        run(x, 0, 0, false);
        rejected(x, 0, 10);
    }

    private static void needsItself() {
        Check.part("pipeline: no job that is there needs itself directly");
        for (int j = 0; j < 4; j++) {
            invalid(FOUR | needs(j, j));
            invalid(required(j) | needs(j, j));
            invalid(required((j + 1) % 4) | there(j) | needs(j, j));
        }
    }

    private static int circle(int[] jobs) {
        int found = 0;
        for (int i = 0; i < jobs.length; i++) {
            found |= needs(jobs[i], jobs[(i + 1) % jobs.length]);
        }
        return found;
    }

    private static void circles() {
        Check.part("pipeline: no job that is there needs itself by way of others");
        for (int[] jobs : CIRCLES) {
            invalid(FOUR | circle(jobs));
            // One need less, and the circle is none.
            int last = jobs.length - 1;
            valid(FOUR | circle(jobs) & ~needs(jobs[last], jobs[0]), 1, 1, 1, 1);
        }
    }

    private static void circleOfOthersThanTheRequired() {
        Check.part("pipeline: no job that is there, required or not, needs itself");
        for (int[] jobs : CIRCLES) {
            for (int outside = 0; outside < 4; outside++) {
                if ((circle(jobs) >> 8 + 4 * outside & 15) == 0) {
                    invalid(15 | 16 << outside | circle(jobs));
                }
            }
        }
    }

    private static void waysWithoutACircle() {
        Check.part("pipeline: ways that meet are no circle");
        int diamond = FOUR | needs(3, 1) | needs(3, 2) | needs(1, 0) | needs(2, 0);
        valid(diamond, 1, 1, 1, 1);
        valid(FOUR | needs(3, 0) | needs(3, 1) | needs(3, 2) | needs(2, 0) | needs(2, 1) | needs(1, 0), 1, 1, 1, 1);
        valid(FOUR | needs(0, 3) | needs(0, 2) | needs(0, 1) | needs(1, 3) | needs(1, 2) | needs(2, 3), 1, 1, 1, 1);
        GatedTrunk x = underTest(diamond, 0, 9);
        Check.due("claim", 0, x.claim(0));
        Check.due("claim", -1, x.claim(1));
        x.report(0, true);
        Check.due("claim", 1, x.claim(0));
        Check.due("claim", 2, x.claim(1));
        x.report(0, true);
        Check.due("claim of the one that needs both", -1, x.claim(0));
        x.report(1, true);
        Check.due("claim", 3, x.claim(0));
    }

    private static void higherBits() {
        Check.part("pipeline: the bits from 2^24 on mean nothing");
        for (int bit = 24; bit < 32; bit++) {
            valid(17 | 1 << bit, 1, 0, 0, 0);
            invalid(1 << bit);
        }
        valid(17 | 0xFF << 24, 1, 0, 0, 0);
        valid(FOUR | 0xFF << 24, 1, 1, 1, 1);
    }

    private static void leastAndGreatest() {
        Check.part("pipeline: the least and the greatest int");
        // No job is there; all are there and need themselves; the same; no job is there.
        invalid(LEAST);
        invalid(MOST);
        invalid(-1);
        invalid(0);
        valid(LEAST | 17, 1, 0, 0, 0);
        valid(LEAST | 136, 0, 0, 0, 1);
    }
}
