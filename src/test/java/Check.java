/** Counts the answers that are as due and prints those that are not. */
final class Check {
    private int right = 0;
    private int wrong = 0;
    private String about = "";

    void about(String what) {
        about = what;
    }

    void due(String call, long got, long want) {
        if (got == want) {
            right++;
            return;
        }
        wrong++;
        if (wrong <= 50) {
            System.out.println(about + ": " + call + " answered " + got + ", due is " + want);
        }
    }

    void holds(String claim, boolean isSo) {
        due(claim, isSo ? 1 : 0, 1);
    }

    /** Ends the program, with exit code 1 if an answer was not as due. */
    void end() {
        System.out.println(right + " answers as due, " + wrong + " not");
        System.exit(wrong == 0 && right > 0 ? 0 : 1);
    }
}
