/** Compares answers with those that are due, and ends a test. */
final class Check {
    private final String test;
    private int asked = 0;
    private int wrong = 0;
    private String about = "";

    Check(String test) {
        this.test = test;
    }

    /** What the answers from here on are about. */
    void about(String what) {
        about = " " + what;
    }

    int asked() {
        return asked;
    }

    void due(String what, int got, int want) {
        asked++;
        if (got != want) {
            wrong++;
            System.out.println(test + about + ": " + what + " answered " + got + ", due is " + want);
        }
    }

    void due(String what, boolean got, boolean want) {
        due(what, got ? 1 : 0, want ? 1 : 0);
    }

    boolean isRight() {
        return wrong == 0;
    }

    /** Prints how it went; exit code 1 if an answer was wrong, or if nothing was asked. */
    void finish() {
        System.out.println(test + ": " + asked + " answers, " + wrong + " wrong");
        if (wrong != 0 || asked == 0) {
            System.exit(1);
        }
    }
}
