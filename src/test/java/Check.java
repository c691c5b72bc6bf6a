/** Counts answers that are not as due, for the tests of this folder. */
final class Check {
    interface Call {
        long go();
    }

    private final String intro;
    private int right = 0;
    private int wrong = 0;

    Check() {
        this(" ");
    }

    /** What each wrong answer's line begins with; nothing at all: no lines. */
    Check(String intro) {
        this.intro = intro;
    }

    int rightAnswers() {
        return right;
    }

    int wrongAnswers() {
        return wrong;
    }

    void is(String what, long want, long got) {
        judge(what, String.valueOf(got), String.valueOf(want));
    }

    void due(String what, long want, Call call) {
        String got = answer(call);
        judge(what, got, String.valueOf(want));
    }

    void yes(String what, boolean holds) {
        judge(what, holds ? "yes" : "no", "yes");
    }

    void outOfBounds(String what, Call call) {
        judge(what, answer(call), "throws.IndexOutOfBoundsException");
    }

    void badArgument(String what, Call call) {
        judge(what, answer(call), "throws.IllegalArgumentException");
    }

    void badState(String what, Call call) {
        judge(what, answer(call), "throws.IllegalStateException");
    }

    void noElement(String what, Call call) {
        judge(what, answer(call), "throws.NoSuchElementException");
    }

    void judge(String what, String got, String want) {
        if (got.equals(want)) {
            right++;
        } else {
            wrong++;
            if (!intro.isEmpty()) {
                System.out.println((intro + what).trim() + " answered " + got + ", due is " + want);
            }
        }
    }

    static String answer(Call call) {
        try {
            return String.valueOf(call.go());
        } catch (RuntimeException e) {
            // The exact class: a subclass is what the machine throws by itself.
            return "throws." + e.getClass().getSimpleName();
        }
    }

    static long bit(boolean b) {
        return b ? 1 : 0;
    }

    void isFalse(String what, boolean got) {
        judge(what, String.valueOf(got), "false");
    }

    void isTrue(String what, boolean got) {
        judge(what, String.valueOf(got), "true");
    }

    void end() {
        System.out.println(right + " answers as due, " + wrong + " not");
        if (wrong != 0 || right == 0) {
            System.exit(1);
        }
    }
}
