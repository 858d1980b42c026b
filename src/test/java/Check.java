/** Compares answers with those that are due, prints the wrong ones, and ends the test. */
final class Check {
    private int calls = 0;
    private int wrong = 0;
    private String words = "";
    private int callsBefore = 0;

    /** From here on it is looked at whether these words of the document hold. */
    void under(String sentence) {
        words = sentence + ": ";
        callsBefore = calls;
    }

    /** A sentence under which nothing was looked at has no test. */
    void over() {
        holds("something is looked at", calls > callsBefore);
        words = "";
    }

    void due(String call, int got, int want) {
        calls++;
        if (got != want) {
            wrong++;
            System.out.println(words + call + " answered " + got + ", due is " + want);
        }
    }

    void holds(String what, boolean so) {
        due(what, so ? 1 : 0, 1);
    }

    boolean isWrong() {
        return wrong > 0;
    }

    void end(String test) {
        System.out.println(test + ": " + calls + " checks, " + wrong + " wrong");
        if (wrong > 0 || calls == 0) {
            System.exit(1);
        }
    }
}
