/** Counts the calls of a test whose answer is not the one that is due. */
final class Due {
    private final String test;
    private int calls;
    private int wrong;

    Due(String test) {
        this.test = test;
    }

    void same(String call, long got, long due) {
        calls++;
        if (got != due) {
            wrong++;
            System.out.println(test + ": " + call + " answered " + got + ", due is " + due);
        }
    }

    void holds(String what, boolean truth) {
        same(what, truth ? 1 : 0, 1);
    }

    /** A test that asks nothing doesn't pass either. */
    boolean passed() {
        return calls > 0 && wrong == 0;
    }

    int calls() {
        return calls;
    }

    /** Ends the program with exit code 1 if an answer was not the one that is due. */
    void end() {
        System.out.println(test + ": " + calls + " answers, " + wrong + " of them wrong");
        if (!passed()) {
            System.exit(1);
        }
    }
}
