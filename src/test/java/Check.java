/** Counts answers that are not as due and prints each of them; a test that does not end is wrong, too. */
final class Check {
    // Far more than any test takes: a call that goes on and on fails the test in place of holding it up for ever.
    private static final long MOST_MILLIS = 300_000;

    private int asked = 0;
    private int wrong = 0;

    Check() {
        Thread watch = new Thread(Check::endTooLong);
        watch.setDaemon(true);
        watch.start();
    }

    private static void endTooLong() {
        try {
            Thread.sleep(MOST_MILLIS);
            System.out.println("the test does not end");
            Runtime.getRuntime().halt(1);
        } catch (InterruptedException e) {
            Thread.currentThread().interrupt();
        }
    }

    void due(String call, long got, long want) {
        asked++;
        if (got != want) {
            wrong++;
            System.out.println(call + " answered " + got + ", due is " + want);
        }
    }

    void holds(String what, boolean so) {
        asked++;
        if (!so) {
            wrong++;
            System.out.println("not so: " + what);
        }
    }

    /** Ends the program, with 1 if anything was wrong. */
    void end() {
        System.out.println(asked + " checks, " + wrong + " wrong");
        System.exit(wrong == 0 && asked > 0 ? 0 : 1);
    }
}
