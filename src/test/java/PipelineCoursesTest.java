/**
 * Every pipeline that the bits can spell is valid or not as the document says, and every valid one is
 * taken through every course of jobs that pass or fail. Here a pipeline is valid when its jobs can be
 * taken away one by one, each when all that it needs are away.
 */
public final class PipelineCoursesTest {
    private static final int JOBS = 4;
    private static final int SPELLED = 1 << 24;
    /** The bits above mean nothing; so they are set now in this way, now in that. */
    private static final int ABOVE = 0xff000000;
    private static final int MIXER = 0x9e3779b1;
    /** So many pipelines are tried on one object: five calls each, far below 512. */
    private static final int ON_ONE_OBJECT = 80;
    /**
     * For 1, 2, 3 and 4 jobs there: which these are, times the ways to need each other without a circle
     * (1, 3, 25, 543), times the ways in which some are required, times the bits of absent jobs, which are free.
     */
    private static final int VALID_ONES = 4 * 1 * 1 * (1 << 15) + 6 * 3 * 3 * (1 << 10) + 4 * 25 * 7 * (1 << 5) + 543 * 15;
    private static final int WAITING = 1;
    private static final int PASSED = 2;
    private static final int FAILED = 3;

    private static int validOnes = 0;
    private static int courses = 0;

    public static void main(String[] args) {
        GatedTrunk x = null;
        for (int p = 0; p < SPELLED; p++) {
            if (x == null || p % ON_ONE_OBJECT == 0) {
                x = withOpenChange();
            }
            if (isValid(p)) {
                checkValid(p);
            } else {
                checkNotValid(x, p);
            }
        }
        // So a mistake in the telling below, which would hide the same one in the class, is seen.
        Check.part("what was met");
        Check.due("valid pipelines", VALID_ONES, validOnes);
        Check.yes("courses " + courses, courses > 40000);
        Check.finish();
    }

    private static GatedTrunk withOpenChange() {
        GatedTrunk x = new GatedTrunk(0, 1, 0, 1);
        x.open();
        return x;
    }

    private static GatedTrunk underTest(int p) {
        GatedTrunk x = withOpenChange();
        x.push(0, 0, p);
        x.enqueue(0);
        return x;
    }

    private static void checkValid(int p) {
        validOnes++;
        int spelled = p | p * MIXER & ABOVE;
        GatedTrunk x = underTest(spelled);
        due(p, "batch", 1, x.batch());
        due(p, "state", 1, x.state(0));
        if (!absentJobNeeds(p)) {
            checkCourses(spelled, new boolean[JOBS], 0);
        }
    }

    private static void checkNotValid(GatedTrunk x, int p) {
        x.push(0, 0, p | p * MIXER & ABOVE);
        x.enqueue(0);
        due(p, "batch", 0, x.batch());
        due(p, "cause", 2, x.cause(0));
        due(p, "rebase", 1, x.rebase(0) ? 1 : 0);
    }

    /** A course is what the jobs answer in their turn; each that does not end the batch goes on in two ways. */
    private static void checkCourses(int p, boolean[] course, int length) {
        GatedTrunk x = underTest(p);
        int[] jobs = new int[JOBS];
        for (int j = 0; j < JOBS; j++) {
            jobs[j] = isThere(p, j) ? WAITING : 0;
        }
        for (int i = 0; i < length; i++) {
            int next = nextJob(p, jobs);
            due(p, "claim", next, x.claim(i));
            due(p, "report", 1, x.report(i, course[i]) ? 1 : 0);
            jobs[next] = course[i] ? PASSED : FAILED;
            failAllThatNeedFailed(p, jobs);
        }
        if (hasEnded(p, jobs)) {
            courses++;
            checkEnded(x, p, jobs);
            return;
        }
        due(p, "batch", 1, x.batch());
        for (int j = 0; j < JOBS; j++) {
            due(p, "job", jobs[j], x.job(j));
        }
        course[length] = false;
        checkCourses(p, course, length + 1);
        course[length] = true;
        checkCourses(p, course, length + 1);
    }

    private static void checkEnded(GatedTrunk x, int p, int[] jobs) {
        int failed = firstFailedRequired(p, jobs);
        due(p, "batch", 0, x.batch());
        due(p, "claim", -1, x.claim(0));
        due(p, "state", failed < 0 ? 2 : 3, x.state(0));
        due(p, "cause", failed < 0 ? 0 : 10 + failed, x.cause(0));
        due(p, "version", failed < 0 ? 1 : 0, x.version());
        due(p, "file", failed < 0 ? p : 17, x.file(-1, 0));
        for (int j = 0; j < JOBS; j++) {
            due(p, "job", 0, x.job(j));
        }
    }

    private static boolean hasEnded(int p, int[] jobs) {
        if (firstFailedRequired(p, jobs) >= 0) {
            return true;
        }
        for (int j = 0; j < JOBS; j++) {
            if (isRequired(p, j) && jobs[j] != PASSED) {
                return false;
            }
        }
        return true;
    }

    private static int firstFailedRequired(int p, int[] jobs) {
        for (int j = 0; j < JOBS; j++) {
            if (isRequired(p, j) && jobs[j] == FAILED) {
                return j;
            }
        }
        return -1;
    }

    private static int nextJob(int p, int[] jobs) {
        for (int j = 0; j < JOBS; j++) {
            boolean free = jobs[j] == WAITING;
            for (int k = 0; k < JOBS; k++) {
                free = free && (!needs(p, j, k) || jobs[k] == PASSED);
            }
            if (free) {
                return j;
            }
        }
        throw new IllegalStateException("no job can be leased in " + p);
    }

    private static void failAllThatNeedFailed(int p, int[] jobs) {
        for (int i = 0; i < JOBS; i++) {
            for (int j = 0; j < JOBS; j++) {
                for (int k = 0; k < JOBS; k++) {
                    if (isThere(p, j) && needs(p, j, k) && jobs[k] == FAILED) {
                        jobs[j] = FAILED;
                    }
                }
            }
        }
    }

    private static boolean isValid(int p) {
        boolean someRequired = false;
        boolean[] left = new boolean[JOBS];
        for (int j = 0; j < JOBS; j++) {
            left[j] = isThere(p, j);
            someRequired = someRequired || isRequired(p, j);
            for (int k = 0; k < JOBS; k++) {
                if (isThere(p, j) && needs(p, j, k) && !isThere(p, k)) {
                    return false;
                }
            }
        }
        for (int i = 0; i < JOBS; i++) {
            for (int j = 0; j < JOBS; j++) {
                left[j] = left[j] && needsSomeOf(p, j, left);
            }
        }
        return someRequired && !left[0] && !left[1] && !left[2] && !left[3];
    }

    private static boolean needsSomeOf(int p, int j, boolean[] left) {
        for (int k = 0; k < JOBS; k++) {
            if (left[k] && needs(p, j, k)) {
                return true;
            }
        }
        return false;
    }

    private static boolean absentJobNeeds(int p) {
        for (int j = 0; j < JOBS; j++) {
            for (int k = 0; k < JOBS; k++) {
                if (!isThere(p, j) && needs(p, j, k)) {
                    return true;
                }
            }
        }
        return false;
    }

    private static boolean isThere(int p, int j) {
        return hasBit(p, j);
    }

    private static boolean isRequired(int p, int j) {
        return isThere(p, j) && hasBit(p, 4 + j);
    }

    private static boolean needs(int p, int j, int k) {
        return hasBit(p, 8 + 4 * j + k);
    }

    private static boolean hasBit(int p, int bit) {
        return (p & 1 << bit) != 0;
    }

    /** Most answers are right, and a name for each of so many would take long: so it is made late. */
    private static void due(int p, String call, int want, int got) {
        if (want != got) {
            Check.part("pipeline " + p);
            Check.due(call, want, got);
        }
    }
}
