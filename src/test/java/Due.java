/** What the tests share: the findings by name, a check of one answer, TEXTS from strings. */
final class Due {
    static final int BEYOND = -1000001;
    static final int FULL = -1000002;
    static final int KIND = -1000003;
    static final int NONE = -1000004;
    static final int STATE = -1000005;
    static final int MISSING = -1000006;
    static final int SIZE = -1000007;

    private static int wrong = 0;
    private static int asked = 0;
    private static String about = "";

    private Due() {
    }

    /** What the answers from now on are asked for; told with each that is not as due. */
    static void about(String what) {
        about = what.isEmpty() ? "" : what + ": ";
    }

    static int asked() {
        return asked;
    }

    static void is(String call, int want, int got) {
        asked++;
        if (got != want) {
            wrong++;
            System.out.println(about + call + " answered " + got + ", due is " + want);
        }
    }

    static void isTrue(String what, boolean holds) {
        asked++;
        if (!holds) {
            wrong++;
            System.out.println(about + "does not hold: " + what);
        }
    }

    /** Feeds a string to THE TAPE, four bytes at once where it can. */
    static void feed(BagRiders x, String text) {
        for (int i = 0; i < text.length(); i += 4) {
            int n = Math.min(4, text.length() - i);
            int bytes = 0;
            for (int j = 0; j < n; j++) {
                bytes = bytes << 8 | text.charAt(i + j);
            }
            x.feed(bytes, n);
        }
    }

    static int text(BagRiders x, String text) {
        feed(x, text);
        return x.text();
    }

    static void end() {
        if (asked == 0 || wrong > 0) {
            System.out.println(wrong + " of " + asked + " answers are not as due");
            System.exit(1);
        }
    }
}
