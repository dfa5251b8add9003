/** Counts the answers that are as due and tells the others. */
final class Due {
    private final String test;
    private int right = 0;
    private int wrong = 0;

    Due(String test) {
        this.test = test;
    }

    void is(String call, long got, long want) {
        if (got == want) {
            right++;
        } else {
            wrong++;
            System.out.println(test + ": " + call + " answered " + got + ", due is " + want);
        }
    }

    /** Ends the test with exit code 1 if an answer was not as due. */
    void end() {
        System.out.println(test + ": " + right + " answers as due, " + wrong + " not");
        if (wrong != 0 || right == 0) {
            System.exit(1);
        }
    }
}
