/** Compares answers with the ones that are due and counts those that are not. */
final class Due {
    /** A call that may throw. */
    interface Call {
        long answer();
    }

    private final String test;
    private int wrong = 0;

    Due(String test) {
        this.test = test;
    }

    void is(String call, long want, long got) {
        if (got != want) {
            tell(call + " answered " + got + ", due is " + want);
        }
    }

    void is(String call, boolean want, boolean got) {
        is(call, want ? 1 : 0, got ? 1 : 0);
    }

    void noState(String call, Call made) {
        fails(call, IllegalStateException.class, made);
    }

    void noIndex(String call, Call made) {
        fails(call, IndexOutOfBoundsException.class, made);
    }

    void noArgument(String call, Call made) {
        fails(call, IllegalArgumentException.class, made);
    }

    private void fails(String call, Class<? extends RuntimeException> want, Call made) {
        String got;
        try {
            got = "answered " + made.answer();
        } catch (RuntimeException e) {
            if (e.getClass() == want) {
                return;
            }
            got = "threw " + e;
        }
        tell(call + " " + got + ", due is " + want.getSimpleName());
    }

    void tell(String fault) {
        wrong++;
        if (wrong <= 40) {
            System.out.println(test + ": " + fault);
        }
    }

    boolean hasFault() {
        return wrong > 0;
    }

    /** Ends the program, with exit code 1 if an answer was wrong. */
    void end() {
        System.out.println(wrong == 0 ? "all answers are as due" : wrong + " answers are not as due");
        System.exit(wrong == 0 ? 0 : 1);
    }

    static long bit(boolean answer) {
        return answer ? 1 : 0;
    }
}
