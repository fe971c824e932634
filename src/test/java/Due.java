/** Compares answers with those that are due, and counts the wrong ones. */
final class Due {
    static final long BAD = -9000000000000000001L;
    static final long NO = -9000000000000000002L;
    static final long FULL = -9000000000000000003L;
    static final long LARGE = -9000000000000000004L;
    static final long NONE = -9000000000000000005L;

    private static int wrong = 0;
    private static int asked = 0;
    private static String test = "";

    private Due() {
    }

    static void is(String what, long got, long want) {
        asked++;
        if (got != want) {
            wrong++;
            System.out.println(test + what + ": answered " + named(got) + ", due is " + named(want));
        }
    }

    static void holds(String what, boolean held) {
        is(what, held ? 1 : 0, 1);
    }

    /** The test whose answers come next is named with each that is wrong. */
    static void within(String name) {
        test = name.isEmpty() ? "" : name + ": ";
    }

    static int asked() {
        return asked;
    }

    static int wrong() {
        return wrong;
    }

    static String named(long answer) {
        if (answer == BAD) return "BAD";
        if (answer == NO) return "NO";
        if (answer == FULL) return "FULL";
        if (answer == LARGE) return "LARGE";
        if (answer == NONE) return "NONE";
        return Long.toString(answer);
    }

    static void end() {
        System.out.println(wrong == 0 ? asked + " answers are as due" : wrong + " of " + asked + " answers are not as due");
        if (wrong != 0) {
            System.exit(1);
        }
    }
}
