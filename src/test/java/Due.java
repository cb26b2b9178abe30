/** Counts and prints the answers that are not as due; done() ends a test with its verdict. */
final class Due {
    private static final int MOST_PRINTED = 40;
    private static int asked = 0;
    private static int wrong = 0;
    private static String heading = "";

    private Due() {
    }

    /** What stands ahead of the answers that are printed from here on. */
    static void heading(String words) {
        heading = words;
    }

    static void be(String call, long got, long want) {
        asked++;
        if (got == want) {
            return;
        }
        wrong++;
        if (wrong <= MOST_PRINTED) {
            System.out.println(heading + call + " answered " + got + ", due is " + want);
        }
    }

    static void hold(String what, boolean holds) {
        be(what, holds ? 1 : 0, 1);
    }

    /** For a long random run: no need to go on when the first answers are wrong already. */
    static boolean isLost() {
        return wrong >= MOST_PRINTED;
    }

    static void done() {
        System.out.println(wrong == 0 ? "all " + asked + " answers are as due"
            : wrong + " of " + asked + " answers are not as due");
        if (wrong != 0) {
            System.exit(1);
        }
    }
}
