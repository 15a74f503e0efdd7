/** Counts and prints the answers that are not the ones due. */
final class Check {
    private static final int MOST_PRINTED = 40;

    private final String test;
    private String part = "";
    private int asked;
    private int wrong;

    Check(String test) {
        this.test = test;
    }

    /** What is asked from now on belongs to this part of the test. */
    void within(String newPart) {
        part = newPart;
    }

    int asked() {
        return asked;
    }

    void due(String call, long got, long want) {
        asked++;
        if (got != want) {
            tell(call + " answered " + got + ", due is " + want);
        }
    }

    void isTrue(String what, boolean holds) {
        asked++;
        if (!holds) {
            tell(what + " does not hold");
        }
    }

    private void tell(String fault) {
        wrong++;
        if (wrong <= MOST_PRINTED) {
            System.out.println(test + ": " + part + fault);
        }
    }

    void end() {
        System.out.println(test + ": " + (asked - wrong) + " of " + asked + " answers are as due");
        if (wrong != 0 || asked == 0) {
            System.exit(1);
        }
    }
}
