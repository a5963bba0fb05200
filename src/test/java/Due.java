/** Compares answers with what is due, and ends a test's run with the exit code that tells of it. */
final class Due {
    private static int asked = 0;
    private static int wrong = 0;

    private Due() { }

    static void is(String call, long want, long got) {
        asked++;
        if (got != want) {
            wrong++;
            System.out.println(call + " answered " + got + ", due is " + want);
        }
    }

    static void yes(String call, boolean got) {
        is(call, 1, got ? 1 : 0);
    }

    static void no(String call, boolean got) {
        is(call, 0, got ? 1 : 0);
    }

    static void end(String test) {
        System.out.println(test + ": " + asked + " answers asked, " + wrong + " wrong");
        if (wrong != 0 || asked == 0) {
            System.exit(1);
        }
    }
}
