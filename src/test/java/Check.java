/** Prints each answer that is not the one that is due, and counts them. */
final class Check {
    private int wrong;
    private int asked;

    void due(String call, long got, long want) {
        asked++;
        if (got != want) {
            wrong++;
            System.out.println(call + " answered " + got + ", due is " + want);
        }
    }

    /** Ends the program with code 1 if an answer was wrong. */
    void end() {
        System.out.println(asked + " answers asked, " + wrong + " are not as due");
        if (wrong > 0) {
            System.exit(1);
        }
    }
}
