/** Counts answers that are not as due, and feeds texts. */
final class Checks {
    private int wrong;
    private int made;
    private String about = "";

    void about(String promise) {
        about = promise;
    }

    void due(String call, long got, long want) {
        made++;
        if (got != want) {
            wrong++;
            System.out.println(about + ": " + call + " answered " + got + ", due is " + want);
        }
    }

    void due(String call, boolean got, boolean want) {
        due(call, got ? 1 : 0, want ? 1 : 0);
    }

    /** The text alone is on the tape then. */
    static LackFerry tell(LackFerry x, String text) {
        x.end(0);
        for (int i = 0; i < text.length(); i += 20) {
            int[] n = new int[5];
            for (int k = 0; k < 20; k++) {
                int c = i + k < text.length() ? text.charAt(i + k) & 255 : 0;
                n[k / 4] |= c << 24 - 8 * (k % 4);
            }
            x.feed(n[0], n[1], n[2], n[3], n[4]);
        }
        x.end(text.length());
        return x;
    }

    /** A new object with a STRAIT that must be right. */
    LackFerry strait(String text) {
        LackFerry x = new LackFerry();
        int lines = tell(x, text).strait();
        due("strait " + text, lines >= 0, true);
        return x;
    }

    /** As many DAYS go by as there are till this one. */
    LackFerry atDay(LackFerry x, int day) {
        for (int left = day - x.now(0); left > 0; left = day - x.now(0)) {
            x.days(Math.min(60, left));
        }
        due("now(0) at " + day, x.now(0), day);
        return x;
    }

    /** All that can be asked without changing anything, as one text. */
    static String allThatIsSo(LackFerry x) {
        StringBuilder all = new StringBuilder();
        for (int k = 0; k < 7; k++) {
            all.append(x.now(k)).append(' ').append(k == 4 ? 0 : x.count(k)).append(' ').append(x.said(k - 1)).append(' ');
        }
        for (int g = 0; g < x.count(0); g++) {
            for (int shore = 0; shore < 2; shore++) {
                all.append(x.crossed(g, shore)).append(' ');
                for (int what = 0; what < 8; what++) {
                    all.append(x.good(g, shore, what)).append(' ');
                }
            }
        }
        for (int m = 0; m < x.count(1); m++) {
            for (int what = 0; what < 5; what++) {
                all.append(x.man(m, what)).append(' ');
            }
            for (int o = 0; o < m; o++) {
                all.append(x.apart(m, o)).append(' ');
            }
        }
        return all.toString();
    }

    /** Ends the test: with exit code 1 if an answer was not as due. */
    void end() {
        System.out.println(made + " answers, " + wrong + " not as due");
        if (wrong != 0 || made == 0) {
            System.exit(1);
        }
    }
}
