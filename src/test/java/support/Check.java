/** Counts the answers that are not as due, and tells them with the sentence of the document that they belong to. */
final class Check {
    private static final int MOST_TOLD = 40;
    private String sentence = "";
    private int answersOfSentence;
    private int answers;
    private int wrong;

    /** What comes next tests these words of the document; a sentence that nothing was asked for counts as wrong. */
    void sentence(String words) {
        closeSentence();
        sentence = "[" + words + "] ";
        answersOfSentence = 0;
    }

    void due(String call, long got, long want) {
        answers++;
        answersOfSentence++;
        if (got != want) {
            tellWrong(call + " answered " + got + ", due is " + want);
        }
    }

    void isTrue(String claim, boolean holds) {
        due(claim, holds ? 1 : 0, 1);
    }

    boolean hasFailed() {
        return wrong > 0;
    }

    /** Ends the test: exit code 1 if an answer was wrong, or if none was asked for. */
    void finish() {
        closeSentence();
        System.out.println(wrong + " of " + answers + " answers are not as due");
        if (wrong > 0 || answers == 0) {
            System.exit(1);
        }
    }

    private void closeSentence() {
        if (!sentence.isEmpty() && answersOfSentence == 0) {
            tellWrong("nothing was asked");
        }
    }

    private void tellWrong(String what) {
        wrong++;
        if (wrong <= MOST_TOLD) {
            System.out.println(sentence + what);
        }
    }
}
