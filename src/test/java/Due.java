/** Counts the answers that are as due and tells the others, with the sentence of the document that asks for them. */
final class Due {
    private final String test;
    private String sentence = "";
    private int right = 0;
    private int wrong = 0;

    Due(String test) {
        this.test = test;
    }

    /** The answers from here on are due by these words of a promise (0: of the terms); the document must have them. */
    void says(int promise, String words) {
        sentence = " (" + (promise == 0 ? "Terms" : "promise " + promise) + ": " + words + ")";
        is("the document has the words", Doc.has(promise, words) ? 1 : 0, 1);
    }

    void is(String call, long got, long want) {
        if (got == want) {
            right++;
        } else {
            wrong++;
            System.out.println(test + ": " + call + " answered " + got + ", due is " + want + sentence);
        }
    }

    /** Makes a call as it is told and holds its answer against the one that is due. */
    void is(PondRings x, String told, long want) {
        is(told, Told.call(x, told), want);
    }

    /** Ends the test with exit code 1 if an answer was not as due. */
    void end() {
        System.out.println(test + ": " + right + " answers as due, " + wrong + " not");
        if (wrong != 0 || right == 0) {
            System.exit(1);
        }
    }
}
