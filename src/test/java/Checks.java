/** Counts the answers that are not as due. */
final class Checks {
    private int wrong;
    private int asked;

    void due(String call, long want, long got) {
        asked++;
        if (got != want) {
            wrong++;
            if (wrong <= 50) {
                System.out.println(call + " answered " + got + ", due is " + want);
            }
        }
    }

    void due(String call, boolean so) {
        due(call, 1, so ? 1 : 0);
    }

    boolean anyWrong() {
        return wrong > 0;
    }

    /** Ends the test, with exit code 1 if any answer was wrong. */
    void end() {
        System.out.println(asked + " answers, " + wrong + " wrong");
        if (wrong > 0 || asked == 0) {
            System.exit(1);
        }
    }
}
