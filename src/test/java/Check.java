/** Compares answers with those that are due and remembers how many were not. */
final class Check {
    private static int wrong = 0;
    private static String part = "";

    private Check() {
    }

    static void part(String name) {
        part = name;
    }

    static void due(String call, long want, long got) {
        if (want != got) {
            wrong++;
            System.out.println(part + ": " + call + " answered " + got + ", due is " + want);
        }
    }

    static void yes(String call, boolean got) {
        due(call, 1, got ? 1 : 0);
    }

    static void no(String call, boolean got) {
        due(call, 0, got ? 1 : 0);
    }

    static int wrongSoFar() {
        return wrong;
    }

    static void finish() {
        System.out.println(wrong == 0 ? "all answers are as due" : wrong + " answers are not as due");
        System.exit(wrong == 0 ? 0 : 1);
    }
}
