/**
 * Words of the document, a test of their own, and what breaks them. The place is the heading the words stand
 * under; the breaks are pairs: a piece of the class, and what put in its place makes the words untrue.
 */
record Sentence(String place, String words, Test test, String[] breaks) {
    interface Test {
        void run(Check c);
    }

    String id() {
        return place + ": \"" + words + "\"";
    }

    static Sentence terms(String words, Test test, String... breaks) {
        return new Sentence("Terms", words, test, breaks);
    }

    static Sentence promise(int number, String words, Test test, String... breaks) {
        return new Sentence("Promise " + number, words, test, breaks);
    }

    /** How many answers were wrong; a test that breaks off, or looks at nothing, counts as wrong too. */
    int wrongAnswers(boolean quiet) {
        Check c = new Check(quiet ? "" : id() + " ");
        try {
            test.run(c);
        } catch (RuntimeException e) {
            c.judge("the test", "breaks off with " + e, "ends");
        }
        c.yes("something is looked at", c.rightAnswers() + c.wrongAnswers() > 0);
        return c.wrongAnswers();
    }
}
