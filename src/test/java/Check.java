/** Counts calls whose answer is not the one that is due, and prints them. */
final class Check {
    private int right;
    private int wrong;

    void due(String call, long got, long want) {
        if (got == want) {
            right++;
        } else {
            wrong++;
            System.out.println(call + " answered " + got + ", due is " + want);
        }
    }

    void so(String what, boolean so) {
        due(what, so ? 1 : 0, 1);
    }

    /** Ends the program, with 1 if an answer was wrong. */
    void end() {
        System.out.println(right + " answers as due, " + wrong + " not");
        System.exit(wrong == 0 && right > 0 ? 0 : 1);
    }
}
