/** Counts and prints the calls whose answer is not the one that is due. */
final class Due {
    static final long BEYOND = -1000000001L;
    static final long FULL = -1000000002L;
    static final long KIND = -1000000003L;
    static final long NONE = -1000000004L;
    static final long STATE = -1000000005L;
    static final long MISSING = -1000000006L;
    static final long SIZE = -1000000007L;

    private int asked;
    private int wrong;

    void is(String call, long got, long want) {
        asked++;
        if (got != want) {
            wrong++;
            System.out.println(call + " answered " + got + ", due is " + want);
        }
    }

    void end() {
        System.out.println(wrong == 0
            ? "all " + asked + " answers are as due"
            : wrong + " of " + asked + " answers are not as due");
        if (wrong != 0 || asked == 0) {
            System.exit(1);
        }
    }

    /** Feeds a text, of which each character is a byte (0 to 255), in few calls: an object has 512. */
    static void feed(BeardHire x, String text) {
        for (int i = 0; i < text.length(); i += 4) {
            int bytes = 0;
            int n = Math.min(4, text.length() - i);
            for (int b = 0; b < n; b++) {
                bytes = bytes << 8 | text.charAt(i + b);
            }
            x.feed(bytes, n);
        }
    }

    /** What shop() answers for a text told to what there is. */
    static int shop(BeardHire x, String text) {
        x.wipe();
        feed(x, text);
        return x.shop();
    }

    /** An object with a shop told in a text. */
    static BeardHire told(String text) {
        BeardHire x = new BeardHire();
        int answer = shop(x, text);
        if (answer <= 0) {
            throw new IllegalStateException("the test's own text is refused with " + answer + ": " + text);
        }
        return x;
    }
}
