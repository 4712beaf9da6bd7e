/** Gathers answers that are not the ones due; a test ends with finish(). */
final class Due {
    static final int BEYOND = -1000000001;
    static final int FULL = -1000000002;
    static final int KIND = -1000000003;
    static final int NONE = -1000000004;
    static final int STATE = -1000000005;
    static final int MISSING = -1000000006;
    static final int SIZE = -1000000007;

    private static int asked = 0;
    private static int wrong = 0;

    private Due() {
    }

    static void is(String what, long want, long got) {
        asked++;
        if (want != got) {
            wrong++;
            if (wrong <= 50) {
                System.out.println(what + " answered " + got + ", due is " + want);
            }
        }
    }

    static void holds(String what, boolean fact) {
        is(what, 1, fact ? 1 : 0);
    }

    static int wrong() {
        return wrong;
    }

    static void finish() {
        System.out.println(asked + " answers, " + wrong + " not as due");
        if (wrong != 0 || asked == 0) {
            System.exit(1);
        }
    }

    /** Feeds a text to the tape, four bytes a call. */
    static void feed(CornerTax tax, String text) {
        for (int i = 0; i < text.length(); i += 4) {
            int n = Math.min(4, text.length() - i);
            int bytes = 0;
            for (int k = 0; k < n; k++) {
                bytes = bytes << 8 | text.charAt(i + k) & 255;
            }
            tax.feed(bytes, n);
        }
    }

    /** What town() answers to a text on an empty tape. */
    static int told(CornerTax tax, String text) {
        feed(tax, text);
        return tax.town();
    }
}
