/** Counts and prints what is not as it is due; a test ends with finish. */
final class Check {
    private int wrong = 0;

    void same(String what, long got, long want) {
        if (got != want) {
            report(what + " answered " + got + ", due is " + want);
        }
    }

    void isTrue(String what, boolean holds) {
        if (!holds) {
            report(what + " does not hold");
        }
    }

    void report(String text) {
        wrong++;
        System.out.println(text);
    }

    void finish() {
        if (wrong > 0) {
            System.out.println(wrong + " wrong");
            System.exit(1);
        }
    }
}
