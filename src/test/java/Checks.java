/** Counts and prints the answers of one test class that are not the due ones. */
final class Checks {
    /** A call that is to throw. */
    interface Call {
        void make();
    }

    private static int wrong = 0;
    private static int made = 0;

    private Checks() {
    }

    static void due(String what, long got, long want) {
        report(what, got == want, Long.toString(got), Long.toString(want));
    }

    static void due(String what, boolean got, boolean want) {
        report(what, got == want, Boolean.toString(got), Boolean.toString(want));
    }

    static void due(String what, String got, String want) {
        report(what, want.equals(got), got, want);
    }

    static void due(String what, double got, double want) {
        report(what, got == want, Double.toString(got), Double.toString(want));
    }

    static void noEntryOrPlace(String what, Call call) {
        throwing(what, call, "IndexOutOfBoundsException");
    }

    static void noSuchValue(String what, Call call) {
        throwing(what, call, "IllegalArgumentException");
    }

    static void notNow(String what, Call call) {
        throwing(what, call, "IllegalStateException");
    }

    private static void throwing(String what, Call call, String want) {
        String got = "nothing";
        try {
            call.make();
        } catch (RuntimeException e) {
            got = e.getClass().getSimpleName();
        }
        report(what + " throws", got.equals(want), got, want);
    }

    private static void report(String what, boolean right, String got, String want) {
        made++;
        if (!right) {
            wrong++;
            System.out.println(what + " answered " + got + ", due is " + want);
        }
    }

    /** Ends the program with 1, if an answer was wrong. */
    static void end(String test) {
        System.out.println(test + ": " + (made - wrong) + " of " + made + " answers are as due");
        if (wrong != 0 || made == 0) {
            System.exit(1);
        }
    }
}
