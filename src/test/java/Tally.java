/** Counts answers that are as due, and prints those that are not. */
final class Tally {
    private final String title;
    private int right;
    private int wrong;

    Tally(String title) {
        this.title = title;
    }

    void due(String call, long got, long want) {
        if (got == want) {
            right++;
        } else {
            wrong++;
            System.out.println(title + ": " + call + " answered " + got + ", due is " + want);
        }
    }

    void must(String what, boolean holds) {
        due(what, holds ? 1 : 0, 1);
    }

    int wrongs() {
        return wrong;
    }

    /** Ends the test: with exit code 1 if one answer was not as due, or none was asked. */
    void end() {
        System.out.println(title + ": " + right + " as due, " + wrong + " not");
        if (wrong != 0 || right == 0) {
            System.exit(1);
        }
    }
}
