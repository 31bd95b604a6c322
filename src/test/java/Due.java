/** Compares answers with what is due, prints those that differ, and ends a test with its exit code. */
final class Due {
    private static final int MOST_PRINTED = 40;
    private static int wrong = 0;
    private static int asked = 0;

    private Due() {
    }

    static void is(String call, long got, long want) {
        asked++;
        if (got == want) return;
        wrong++;
        if (wrong <= MOST_PRINTED) System.out.println(call + " answered " + got + ", due is " + want);
    }

    static void holds(String what, boolean is) {
        is(what, is ? 1 : 0, 1);
    }

    static void end() {
        System.out.println(wrong + " of " + asked + " answers are not as due");
        if (wrong != 0 || asked == 0) System.exit(1);
    }
}
