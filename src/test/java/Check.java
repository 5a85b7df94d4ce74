/** Counts and prints the answers that are not due; finish() ends the test by its exit code. */
final class Check {
    private static final int MOST_PRINTED = 40;
    private int checked;
    private int wrong;

    void due(String call, long got, long want) {
        checked++;
        if (got != want) {
            wrong++;
            if (wrong <= MOST_PRINTED) {
                System.out.println(call + " answered " + got + ", due is " + want);
            }
        }
    }

    void holds(String what, boolean really) {
        due(what, really ? 1 : 0, 1);
    }

    boolean failed() {
        return wrong > 0;
    }

    void finish() {
        System.out.println(checked + " answers, " + wrong + " not as due");
        if (wrong > 0 || checked == 0) {
            System.exit(1);
        }
    }
}
