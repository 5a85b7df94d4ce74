/** Counts and prints the answers that are not due; finish() ends the test by its exit code. */
final class Check {
    private static final int MOST_PRINTED = 40;
    private static final long MOST_MILLISECONDS = 300_000;
    private int checked;
    private int wrong;
    private String where = "";

    /** A test that does not end fails as well, so its checks are watched. */
    Check() {
        Thread watch = new Thread(Check::endTheTest);
        watch.setDaemon(true);
        watch.start();
    }

    private static void endTheTest() {
        try {
            Thread.sleep(MOST_MILLISECONDS);
        } catch (InterruptedException e) {
            return;
        }
        System.out.println("the test has not ended in " + MOST_MILLISECONDS / 1000 + " seconds");
        Runtime.getRuntime().halt(1);
    }

    /** What is checked from now on is told with these words ahead of it. */
    void at(String words) {
        where = words;
    }

    void due(String call, long got, long want) {
        checked++;
        if (got != want) {
            wrong++;
            if (wrong <= MOST_PRINTED) {
                System.out.println(where + call + " answered " + got + ", due is " + want);
            }
        }
    }

    void holds(String what, boolean really) {
        due(what, really ? 1 : 0, 1);
    }

    int checked() {
        return checked;
    }

    boolean failed() {
        return wrong > 0;
    }

    void finish() {
        System.out.println(checked + " answers, " + wrong + " not as due");
        if (wrong > 0 || checked == 0) {
            System.exit(1);
        }
    }
}
