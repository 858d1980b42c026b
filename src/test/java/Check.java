/** Compares answers with those that are due, prints the wrong ones, and ends the test. */
final class Check {
    private int calls = 0;
    private int wrong = 0;

    void due(String call, int got, int want) {
        calls++;
        if (got != want) {
            wrong++;
            System.out.println(call + " answered " + got + ", due is " + want);
        }
    }

    void holds(String what, boolean so) {
        due(what, so ? 1 : 0, 1);
    }

    boolean isWrong() {
        return wrong > 0;
    }

    void end(String test) {
        System.out.println(test + ": " + calls + " checks, " + wrong + " wrong");
        if (wrong > 0 || calls == 0) {
            System.exit(1);
        }
    }
}
