import java.util.ArrayList;
import java.util.List;
import java.util.Random;
import java.util.TreeMap;

/** Long random runs (the seeds are fixed), each answer compared with the model's. */
public final class ModelTest {
    private static final int RUNS = 3000;
    /** The document promises nothing after so many; the looks between two calls are not counted here. */
    private static final int CALLS = 512;
    private static final int[] EDGES = {Integer.MIN_VALUE, -17, -3, -2, -1, 4, 6, 8, 16, 17, 20, 21, Integer.MAX_VALUE};
    /** How often each thing worth meeting was met: a run that meets too little proves too little. */
    private static final TreeMap<String, Integer> met = new TreeMap<>();

    private final Random random;
    private final GatedTrunk real;
    private final Model model;
    private final List<String> calls = new ArrayList<>();
    private final int strangeness;
    private final int contents;
    private final int crashiness;
    private final int failures;
    private int opened = 0;

    private ModelTest(int seed) {
        random = new Random(seed);
        int approvals = random.nextInt(3) > 0 ? random.nextInt(2) : number(-1, 5);
        int batch = random.nextInt(4) > 0 ? number(2, 9) : number(-2, 11);
        int retries = number(-1, 4);
        int lease = number(-1, 11);
        strangeness = random.nextInt(12);
        contents = number(2, 6);
        crashiness = random.nextInt(3);
        failures = number(1, 6);
        calls.add("new GatedTrunk(" + approvals + ", " + batch + ", " + retries + ", " + lease + ")");
        real = new GatedTrunk(approvals, batch, retries, lease);
        model = new Model(approvals, batch, retries, lease);
    }

    public static void main(String[] args) {
        for (int seed = 0; seed < RUNS && Check.wrongSoFar() == 0; seed++) {
            Check.part("seed " + seed);
            new ModelTest(seed).run();
        }
        if (Check.wrongSoFar() == 0) {
            System.out.println("met: " + met);
            checkMet("state 2", "state 3", "state 4", "cause 1", "cause 2", "cause 10", "cause 11", "cause 12",
                    "cause 13", "batch 1", "batch 2", "batch 3", "batch 4", "batch 5", "batch 6", "batch 7", "batch 8",
                    "plan of 2", "plan of 3", "plan of 4", "lost some", "lost 16", "kept some of the lost",
                    "job 2", "job 3", "expired by tick 2", "expired by tick 3", "expired and built anew", "flushed 16",
                    "all changes opened", "rebase of 0", "rebase of 3", "rebase refused by a conflict",
                    "crash ended a batch");
        }
        Check.finish();
    }

    private static void checkMet(String... names) {
        for (String name : names) {
            Check.yes("'" + name + "' met 20 times (" + met.get(name) + ")", met.getOrDefault(name, 0) >= 20);
        }
    }

    private static void meet(String name) {
        met.merge(name, 1, Integer::sum);
    }

    private int number(int from, int below) {
        return from + random.nextInt(below - from);
    }

    private boolean oneIn(int n) {
        return random.nextInt(n) == 0;
    }

    private int argument(int below) {
        if (random.nextInt(100) < strangeness) {
            return EDGES[random.nextInt(EDGES.length)];
        }
        return random.nextInt(Math.max(1, below));
    }

    /** A change, if it can be one in this state. */
    private int changeIn(int state) {
        int c = argument(opened);
        for (int i = 0; i < 6 && model.state(c) != state && random.nextInt(100) >= strangeness; i++) {
            c = argument(opened);
        }
        return c;
    }

    private int pipeline() {
        int there = number(1, 16);
        int p = there | (oneIn(3) ? random.nextInt(16) : 15) << 4;
        int turn = random.nextInt(4);
        for (int j = 0; j < 4; j++) {
            for (int k = 0; k < 4; k++) {
                boolean inOrder = (j + turn) % 4 > (k + turn) % 4;
                boolean fits = (there >> j & 1) == 0 || (there >> k & 1) != 0 && inOrder;
                if (fits && oneIn(2) || oneIn(150)) {
                    p |= 1 << 8 + 4 * j + k;
                }
            }
        }
        return oneIn(3) ? p | random.nextInt() << 24 : p;
    }

    private int content(int path) {
        if (path == 0) {
            return oneIn(4) ? 17 : pipeline();
        }
        return oneIn(20) ? random.nextInt() : random.nextInt(contents);
    }

    private void run() {
        while (calls.size() < CALLS - 6 && Check.wrongSoFar() == 0) {
            int kind = random.nextInt(100);
            if (opened < 16 && opened * 16 < calls.size() + 40 && kind < 30) {
                open();
            } else if (kind < 40) {
                changeOne(random.nextInt(10));
            } else {
                testOne(random.nextInt(60));
            }
            if (Check.wrongSoFar() == 0) {
                compareAll();
            }
        }
        if (Check.wrongSoFar() > 0) {
            System.out.println(String.join("; ", calls));
        }
        for (int c = 0; c < opened; c++) {
            meet("state " + model.state(c));
            meet("cause " + model.cause(c));
        }
    }

    private void same(String call, long want, long got) {
        calls.add(call + " = " + got);
        Check.due(call, want, got);
    }

    private void same(String call, boolean want, boolean got) {
        same(call, want ? 1 : 0, got ? 1 : 0);
    }

    private void open() {
        same("open()", model.open(), real.open());
        opened = model.now.changes.size();
        if (opened == 16) {
            meet("all changes opened");
        }
        for (int i = random.nextInt(3); i > 0; i--) {
            push(opened - 1);
        }
        for (int i = random.nextInt(3); i > 0; i--) {
            approve(opened - 1);
        }
        if (oneIn(2)) {
            enqueue(opened - 1);
        }
    }

    private void push(int c) {
        int path = oneIn(5) ? 0 : argument(6);
        int content = content(path);
        same("push(" + c + ", " + path + ", " + content + ")", model.push(c, path, content), real.push(c, path, content));
    }

    private void approve(int c) {
        int r = argument(8);
        same("approve(" + c + ", " + r + ")", model.approve(c, r), real.approve(c, r));
    }

    private void object(int c) {
        int r = argument(8);
        same("object(" + c + ", " + r + ")", model.object(c, r), real.object(c, r));
    }

    private void enqueue(int c) {
        same("enqueue(" + c + ")", model.enqueue(c), real.enqueue(c));
    }

    private void changeOne(int kind) {
        if (kind < 2) {
            push(changeIn(0));
        } else if (kind < 4) {
            approve(changeIn(0));
        } else if (kind < 5) {
            object(changeIn(0));
        } else if (kind < 7) {
            enqueue(changeIn(0));
        } else if (kind < 9) {
            int c = changeIn(oneIn(4) ? 0 : 3);
            int stateBefore = model.state(c);
            boolean want = model.rebase(c);
            same("rebase(" + c + ")", want, real.rebase(c));
            if (stateBefore == 0 || stateBefore == 3) {
                meet(want ? "rebase of " + stateBefore : "rebase refused by a conflict");
            }
        } else if (oneIn(3)) {
            int c = changeIn(oneIn(2) ? 0 : 3);
            same("close(" + c + ")", model.close(c), real.close(c));
        } else if (opened == 16) {
            same("open()", model.open(), real.open());
        }
    }

    private void testOne(int kind) {
        if (kind < 25) {
            int w = argument(4);
            same("claim(" + w + ")", model.claim(w), real.claim(w));
        } else if (kind < 45) {
            int w = argument(4);
            boolean passed = random.nextInt(6) >= failures;
            same("report(" + w + ", " + passed + ")", model.report(w, passed), real.report(w, passed));
        } else if (kind < 55) {
            tick();
        } else if (kind < 56) {
            int want = model.flush();
            same("flush()", want, real.flush());
        } else if (oneIn(6 - 2 * crashiness)) {
            crash();
        }
    }

    private void tick() {
        int n = oneIn(3) ? argument(22) : number(1, 4);
        int membersBefore = model.batch();
        int want = model.tick(n);
        same("tick(" + n + ")", want, real.tick(n));
        meet("expired by tick " + want);
        if (want > 0 && model.batch() > 0 && model.batch() != membersBefore) {
            meet("expired and built anew");
        }
    }

    private void crash() {
        int survive = oneIn(3) ? number(-2, 19) : number(0, 8);
        if (oneIn(10)) {
            survive = argument(20);
        }
        int membersBefore = model.batch();
        int want = model.crash(survive);
        same("crash(" + survive + ")", want, real.crash(survive));
        opened = model.now.changes.size();
        meet("lost " + want);
        if (want > 0) {
            meet("lost some");
            if (survive > 0) {
                meet("kept some of the lost");
            }
        } else if (model.batch() != membersBefore) {
            meet("crash ended a batch");
        }
        same("flush()", 0, real.flush());
    }

    private void compareAll() {
        for (int c = -1; c <= 16; c++) {
            Check.due("state(" + c + ")", model.state(c), real.state(c));
            Check.due("cause(" + c + ")", model.cause(c), real.cause(c));
            Check.due("standing(" + c + ")", model.standing(c), real.standing(c));
            Check.due("queueAt(" + c + ")", model.queueAt(c), real.queueAt(c));
        }
        for (int which = -3; which <= 16; which++) {
            for (int path = -1; path <= 6; path++) {
                Check.due("file(" + which + ", " + path + ")", model.file(which, path), real.file(which, path));
            }
        }
        for (int j = -1; j <= 4; j++) {
            Check.due("job(" + j + ")", model.job(j), real.job(j));
            meet("job " + model.job(j));
        }
        Check.due("batch()", model.batch(), real.batch());
        Check.due("version()", model.version(), real.version());
        meet("batch " + model.batch());
        meet("plan of " + model.now.plan.size());
        if (calls.get(calls.size() - 1).equals("flush() = 16")) {
            meet("flushed 16");
        }
    }
}
