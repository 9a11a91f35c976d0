/** Collects the answers of one test that are not as due, and ends it with exit code 1 if any. */
final class Check {
    interface Call {
        long answer();
    }

    private int asked;
    private int wrong;

    void due(String call, long got, long want) {
        asked++;
        if (got != want) {
            tell(call + " answered " + got + ", due is " + want);
        }
    }

    void due(String call, boolean got, boolean want) {
        due(call, got ? 1 : 0, want ? 1 : 0);
    }

    /** The very class is due: a subclass such as ArrayIndexOutOfBoundsException is wrong. */
    void thrown(String call, Class<? extends RuntimeException> want, Call made) {
        asked++;
        try {
            long got = made.answer();
            tell(call + " answered " + got + ", due is " + want.getSimpleName());
        } catch (RuntimeException e) {
            if (e.getClass() != want) {
                tell(call + " threw " + e + ", due is " + want.getSimpleName());
            }
        }
    }

    void end() {
        System.out.println(asked + " answers, " + wrong + " not as due");
        if (wrong != 0) {
            System.exit(1);
        }
    }

    private void tell(String what) {
        wrong++;
        if (wrong <= 50) {
            System.out.println(what);
        }
    }
}
