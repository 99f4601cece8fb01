/** Counts and prints the answers that are not the due ones. */
final class Due {
    static final int LOW = -1000000000;
    static final int BEYOND = LOW - 1;
    static final int NONE = LOW - 2;
    static final int STATE = LOW - 3;
    static final int FULL = LOW - 4;
    static final int KIND = LOW - 5;

    private static int wrong = 0;
    private static int asked = 0;

    private Due() {
    }

    static void is(String call, long got, long want) {
        asked++;
        if (got != want) {
            wrong++;
            System.out.println(call + " answered " + got + ", due is " + want);
        }
    }

    static void holds(String what, boolean holds) {
        asked++;
        if (!holds) {
            wrong++;
            System.out.println(what + ": does not hold");
        }
    }

    /** Feeds a text's bytes to THE TAPE and makes them the TEXT of a use. */
    static int write(RainShares x, int use, String text) {
        feed(x, text);
        return x.text(use);
    }

    static void feed(RainShares x, String text) {
        for (int from = 0; from < text.length(); from += 8) {
            int n = Math.min(8, text.length() - from);
            long word = 0;
            for (int i = n - 1; i >= 0; i--) {
                word = word << 8 | text.charAt(from + i) & 255;
            }
            x.feed(word, n);
        }
    }

    /** A valley with ROOFS of these SHARES. */
    static RainShares valley(int... shares) {
        RainShares x = new RainShares();
        for (int s : shares) {
            x.roof(s);
        }
        return x;
    }

    static void end() {
        if (wrong != 0) {
            System.out.println(wrong + " of " + asked + " answers are not as due");
            System.exit(1);
        }
        System.out.println(asked + " answers are as due");
    }
}
