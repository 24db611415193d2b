/** Counts answers that are due and tells those that are not. */
final class Check {
    private int passed;
    private int failed;

    void due(String call, long got, long want) {
        if (got == want) {
            passed++;
            return;
        }
        failed++;
        System.out.println(call + " answered " + got + ", due is " + want);
    }

    void holds(String what, boolean isSo) {
        due(what, isSo ? 1 : 0, 1);
    }

    boolean hasFailed() {
        return failed > 0;
    }

    void end() {
        System.out.println("checks: " + passed + " as due, " + failed + " not");
        if (failed > 0) {
            System.exit(1);
        }
    }
}
