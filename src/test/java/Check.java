/** Counts the answers that are not as due, and ends a test with exit code 1 if there was one. */
final class Check {
    private int wrong = 0;
    private int asked = 0;

    void due(String call, long got, long want) {
        asked++;
        if (got != want) {
            wrong++;
            System.out.println(call + " answered " + got + ", due is " + want);
        }
    }

    void due(String call, boolean got, boolean want) {
        due(call, got ? 1L : 0L, want ? 1L : 0L);
    }

    void isTrue(String what, boolean so) {
        due(what, so, true);
    }

    int asked() {
        return asked;
    }

    boolean foundWrong() {
        return wrong != 0;
    }

    void end() {
        System.out.println(asked + " answers looked at, " + wrong + " not as due");
        if (wrong != 0) {
            System.exit(1);
        }
    }
}
