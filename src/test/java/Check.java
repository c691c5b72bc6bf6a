/** Counts answers that are not as due, for the tests of this folder. */
final class Check {
    interface Call {
        long go();
    }

    private int right = 0;
    private int wrong = 0;

    void due(String what, long want, Call call) {
        String got = answer(call);
        judge(what, got, String.valueOf(want));
    }

    void yes(String what, boolean holds) {
        judge(what, holds ? "yes" : "no", "yes");
    }

    void outOfBounds(String what, Call call) {
        judge(what, answer(call), "throws.IndexOutOfBoundsException");
    }

    void badArgument(String what, Call call) {
        judge(what, answer(call), "throws.IllegalArgumentException");
    }

    void badState(String what, Call call) {
        judge(what, answer(call), "throws.IllegalStateException");
    }

    void noElement(String what, Call call) {
        judge(what, answer(call), "throws.NoSuchElementException");
    }

    void judge(String what, String got, String want) {
        if (got.equals(want)) {
            right++;
        } else {
            wrong++;
            System.out.println(what + " answered " + got + ", due is " + want);
        }
    }

    static String answer(Call call) {
        try {
            return String.valueOf(call.go());
        } catch (RuntimeException e) {
            // The exact class: a subclass is what the machine throws by itself.
            return "throws." + e.getClass().getSimpleName();
        }
    }

    static long bit(boolean b) {
        return b ? 1 : 0;
    }

    void end() {
        System.out.println(right + " answers as due, " + wrong + " not");
        if (wrong != 0 || right == 0) {
            System.exit(1);
        }
    }
}
