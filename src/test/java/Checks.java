/** Counts answers that are not as due, and feeds texts. */
final class Checks {
    private int wrong;
    private int made;
    private String about = "";

    void about(String promise) {
        about = promise;
    }

    void due(String call, long got, long want) {
        made++;
        if (got != want) {
            wrong++;
            System.out.println(about + ": " + call + " answered " + got + ", due is " + want);
        }
    }

    void due(String call, boolean got, boolean want) {
        due(call, got ? 1 : 0, want ? 1 : 0);
    }

    /** The text alone is on the tape then. */
    static LackFerry tell(LackFerry x, String text) {
        x.end(0);
        for (int i = 0; i < text.length(); i += 20) {
            int[] n = new int[5];
            for (int k = 0; k < 20; k++) {
                int c = i + k < text.length() ? text.charAt(i + k) & 255 : 0;
                n[k / 4] |= c << 24 - 8 * (k % 4);
            }
            x.feed(n[0], n[1], n[2], n[3], n[4]);
        }
        x.end(text.length());
        return x;
    }

    /** A new object with a STRAIT that must be right. */
    LackFerry strait(String text) {
        LackFerry x = new LackFerry();
        int lines = tell(x, text).strait();
        due("strait " + text, lines >= 0, true);
        return x;
    }

    /** Ends the test: with exit code 1 if an answer was not as due. */
    void end() {
        System.out.println(made + " answers, " + wrong + " not as due");
        if (wrong != 0 || made == 0) {
            System.exit(1);
        }
    }
}
