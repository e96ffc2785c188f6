/** Prints each answer that is not the one that is due, and counts them. */
final class Check {
    private static final long LONGEST_MILLIS = 10 * 60 * 1000;

    private int wrong;
    private int asked;

    /** A call that does not end must fail the test, not hold it up for ever. */
    Check() {
        Thread watch = new Thread(() -> {
            try {
                Thread.sleep(LONGEST_MILLIS);
            } catch (InterruptedException e) {
                return;
            }
            System.out.println("a call does not end");
            Runtime.getRuntime().halt(1);
        });
        watch.setDaemon(true);
        watch.start();
    }

    void due(String call, long got, long want) {
        asked++;
        if (got != want) {
            wrong++;
            System.out.println(call + " answered " + got + ", due is " + want);
        }
    }

    /** Ends the program with code 1 if an answer was wrong. */
    void end() {
        System.out.println(asked + " answers asked, " + wrong + " are not as due");
        if (wrong > 0) {
            System.exit(1);
        }
    }
}
