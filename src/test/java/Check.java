/** Counts answers that are due and tells those that are not. */
final class Check {
    private String about = "";
    private int passed;
    private int failed;

    /** What the next answers are about: told before each that is not due. */
    void about(String what) {
        about = what.isEmpty() ? "" : what + ": ";
    }

    void due(String call, long got, long want) {
        if (got == want) {
            passed++;
            return;
        }
        failed++;
        System.out.println(about + call + " answered " + got + ", due is " + want);
    }

    void holds(String what, boolean isSo) {
        due(what, isSo ? 1 : 0, 1);
    }

    int made() {
        return passed + failed;
    }

    boolean hasFailed() {
        return failed > 0;
    }

    void end() {
        System.out.println("checks: " + passed + " as due, " + failed + " not");
        if (failed > 0) {
            System.exit(1);
        }
    }
}
