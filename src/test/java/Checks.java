/** Counts what was as due and prints what was not. */
final class Checks {
    private static final int SHOWN = 40;
    private int passed;
    private int failed;

    void due(String what, long got, long want) {
        if (got == want) {
            passed++;
            return;
        }
        failed++;
        if (failed <= SHOWN) {
            System.out.println(what + " answered " + got + ", due is " + want);
        }
    }

    void due(String what, boolean got, boolean want) {
        due(what, got ? 1 : 0, want ? 1 : 0);
    }

    void failed(String what) {
        due(what, 0, 1);
    }

    int count() {
        return passed + failed;
    }

    boolean allPassed() {
        return failed == 0;
    }

    /** Tells the counts, and ends the program with 1 if something was not as due. */
    void end() {
        System.out.println(passed + " passed, " + failed + " failed");
        if (failed != 0) {
            System.exit(1);
        }
    }
}
