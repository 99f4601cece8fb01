/**
 * Counts and prints the answers that are not the due ones. Each check belongs to the sentence of
 * ../shared/DOC.md that was named last; a sentence under which nothing is checked counts as wrong.
 */
final class Due {
    static final int LOW = -1000000000;
    static final int BEYOND = LOW - 1;
    static final int NONE = LOW - 2;
    static final int STATE = LOW - 3;
    static final int FULL = LOW - 4;
    static final int KIND = LOW - 5;

    private static int wrong = 0;
    private static int asked = 0;
    private static int askedHere = 1;
    private static String sentence = "";

    private Due() {
    }

    /** What follows tests these words of "Promise n"; SentencesTest looks whether they stand there. */
    static void promise(int n, String words) {
        open("[" + n + ": " + words + "] ");
    }

    /** What follows tests these words of "Terms"; SentencesTest looks whether they stand there. */
    static void term(String words) {
        open("[" + words + "] ");
    }

    private static void open(String next) {
        close();
        sentence = next;
        askedHere = 0;
    }

    private static void close() {
        if (askedHere == 0) {
            wrong++;
            System.out.println(sentence + "nothing is checked");
        }
    }

    static void is(String call, long got, long want) {
        asked++;
        askedHere++;
        if (got != want) {
            wrong++;
            System.out.println(sentence + call + " answered " + got + ", due is " + want);
        }
    }

    static void holds(String what, boolean holds) {
        asked++;
        askedHere++;
        if (!holds) {
            wrong++;
            System.out.println(sentence + what + ": does not hold");
        }
    }

    /** Feeds a text's bytes to THE TAPE and makes them the TEXT of a use. */
    static int write(RainShares x, int use, String text) {
        feed(x, text);
        return x.text(use);
    }

    static void feed(RainShares x, String text) {
        for (int from = 0; from < text.length(); from += 8) {
            int n = Math.min(8, text.length() - from);
            long word = 0;
            for (int i = n - 1; i >= 0; i--) {
                word = word << 8 | text.charAt(from + i) & 255;
            }
            x.feed(word, n);
        }
    }

    /** A valley with ROOFS of these SHARES. */
    static RainShares valley(int... shares) {
        RainShares x = new RainShares();
        for (int s : shares) {
            x.roof(s);
        }
        return x;
    }

    /** A valley in which so many DAYS have passed ahead of all else. */
    static RainShares onDay(int day) {
        RainShares x = new RainShares();
        for (int left = day; left > 0; left -= 60) {
            x.days(Math.min(60, left));
        }
        return x;
    }

    /** Number i of a SHEET, and those behind it, become these. */
    static void lay(RainShares x, int sheet, int bits, int... numbers) {
        x.sheet(sheet, bits, numbers.length);
        for (int i = 0; i < numbers.length; i++) {
            x.put(sheet, i, numbers[i]);
        }
    }

    static int errorsInAll(RainShares x) {
        int sum = 0;
        for (int k = 1; k <= 5; k++) {
            sum += x.told(k);
        }
        return sum;
    }

    static void end() {
        close();
        if (wrong != 0) {
            System.out.println(wrong + " of " + asked + " answers are not as due");
            System.exit(1);
        }
        System.out.println(asked + " answers are as due");
    }
}
