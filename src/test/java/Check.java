/** Counts and prints what is not as it is due; a test ends with finish. */
final class Check {
    interface Call {
        long answer();
    }

    private int wrong = 0;

    void same(String what, long got, long want) {
        if (got != want) {
            report(what + " answered " + got + ", due is " + want);
        }
    }

    void isTrue(String what, boolean holds) {
        if (!holds) {
            report(what + " does not hold");
        }
    }

    /** The class must be the very one: what the machine throws is often a class below it. */
    void refused(String what, Class<? extends RuntimeException> want, Call call) {
        String got;
        try {
            got = String.valueOf(call.answer());
        } catch (RuntimeException e) {
            if (e.getClass() == want) {
                return;
            }
            got = "throws." + e.getClass().getSimpleName();
        }
        report(what + " answered " + got + ", due is throws." + want.getSimpleName());
    }

    void refusedArgument(String what, Call call) {
        refused(what, IllegalArgumentException.class, call);
    }

    void refusedIndex(String what, Call call) {
        refused(what, IndexOutOfBoundsException.class, call);
    }

    void refusedAsTooMuch(String what, Call call) {
        refused(what, UnsupportedOperationException.class, call);
    }

    void refusedState(String what, Call call) {
        refused(what, IllegalStateException.class, call);
    }

    void report(String text) {
        wrong++;
        System.out.println(text);
    }

    void finish() {
        if (wrong > 0) {
            System.out.println(wrong + " wrong");
            System.exit(1);
        }
    }
}
