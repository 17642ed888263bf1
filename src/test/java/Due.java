/** Counts the answers that are not as due, and ends a test by them. */
final class Due {
    private static final int MOST_TOLD = 40;
    private int right = 0;
    private int wrong = 0;
    private String within = "";

    /** The name that stands ahead of what is told from now on. */
    void within(String name) {
        within = name + ": ";
    }

    void is(String call, long got, long want) {
        judge(got == want, call, Long.toString(got), Long.toString(want));
    }

    void same(String call, String got, String want) {
        judge(got.equals(want), call, got, want);
    }

    void holds(String what, boolean is) {
        is(what, is ? 1 : 0, 1);
    }

    private void judge(boolean asDue, String call, String got, String want) {
        if (asDue) {
            right++;
            return;
        }
        wrong++;
        if (wrong <= MOST_TOLD) {
            System.out.println(within + call + " answered " + got + ", due is " + want);
        }
    }

    void end(String test) {
        System.out.println(test + ": " + right + " as due, " + wrong + " not");
        if (wrong != 0 || right == 0) {
            System.exit(1);
        }
    }
}
