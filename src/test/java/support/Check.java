/** Counts the answers that are not as due, and tells them. */
final class Check {
    private static final int MOST_TOLD = 40;
    private int answers;
    private int wrong;

    void due(String call, long got, long want) {
        answers++;
        if (got != want) {
            wrong++;
            if (wrong <= MOST_TOLD) {
                System.out.println(call + " answered " + got + ", due is " + want);
            }
        }
    }

    void isTrue(String claim, boolean holds) {
        due(claim, holds ? 1 : 0, 1);
    }

    boolean hasFailed() {
        return wrong > 0;
    }

    /** Ends the test: exit code 1 if an answer was wrong, or if none was asked for. */
    void finish() {
        System.out.println(wrong + " of " + answers + " answers are not as due");
        if (wrong > 0 || answers == 0) {
            System.exit(1);
        }
    }
}
