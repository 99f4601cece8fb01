/** Promises 14 to 16, and what the Terms tell of TEXTS and USES. */
public final class TextsTest {
    private static final int MIN = Integer.MIN_VALUE;
    private static final int MAX = Integer.MAX_VALUE;
    private static final String[] NAMES = {"wdm", "srd"};
    private static final String SIGNS = "|&<=>+-*/%";

    public static void main(String[] args) {
        atMostFiftyBytes();
        joinedByOr();
        joinedByAnd();
        comparedOnce();
        joinedByPlusAndMinus();
        joinedByTimes();
        singles();
        numbers();
        noBlanks();
        atMostFiveOpen();
        intsWrap();
        cutAndRest();
        byZero();
        oneOrZero();
        allIsWorkedOut();
        faults();
        everyByte();
        endsTooEarly();
        drops();
        price();
        feed();
        feedBeyond();
        feedFull();
        text();
        textBeyond();
        textFault();
        law();
        lawBeyond();
        Due.end();
    }

    private static void fault(String text, int use, int due) {
        RainShares x = new RainShares();
        Due.is("text " + text, Due.write(x, use, text), due < 0 ? 1 : -10 - due);
        Due.is("the tape behind " + text, x.count(7), 0);
    }

    /** A TEXT that goes on to its end. */
    private static void whole(String text) {
        fault(text, 0, -1);
    }

    private static void value(String text, int w, int d, int m, int due) {
        RainShares x = new RainShares();
        Due.is("text " + text, Due.write(x, 0, text), 1);
        Due.is(text + " of " + w + ", " + d + ", " + m, x.law(0, w, d, m), due);
    }

    private static void atMostFiftyBytes() {
        Due.term("TEXTS are read from THE TAPE (bytes, at most 50)");
        RainShares x = new RainShares();
        Due.feed(x, "1" + "+1".repeat(24));
        Due.is("bytes", x.count(7), 49);
        Due.is("the 50th", x.feed('0', 1), 50);
        Due.is("a 51st", x.feed('0', 1), Due.FULL);
        Due.is("all 50 are read", x.text(0), 1);
        Due.is("24 and 10", x.law(0, 0, 0, 0), 34);
        whole("!(w" + "*m".repeat(23) + ")");
    }

    private static void joinedByOr() {
        Due.term("T: A { | A }.");
        value("w|d", 0, -5, 0, 1);
        value("w|d", 7, 0, 0, 1);
        value("w|d", 0, 0, 0, 0);
        value("w|d|m", 0, 0, 3, 1);
        value("w|d&m", 1, 1, 0, 1);
        value("w&d|m", 0, 1, 1, 1);
        value("1|0=0", 0, 0, 0, 1);
        fault("w||d", 0, 2);
        fault("|w", 0, 0);
    }

    private static void joinedByAnd() {
        Due.term("A: B { & B }.");
        value("w&d", 3, 4, 0, 1);
        value("w&d", 4, 3, 0, 1);
        value("w&d", 3, 0, 0, 0);
        value("w&d", 0, 4, 0, 0);
        value("w&d&m", 1, -1, 2, 1);
        value("w&d&m", 1, 1, 0, 0);
        value("(w|d)&m", 1, 1, 0, 0);
        value("w=1&d=2", 1, 2, 0, 1);
        fault("w&&d", 0, 2);
        fault("&w", 0, 0);
    }

    private static void comparedOnce() {
        Due.term("B: S, or S < S, S = S, S > S.");
        int[][] pairs = {{1, 2}, {2, 2}, {3, 2}, {MIN, MAX}, {MAX, MIN}, {-1, 0}};
        for (int[] pair : pairs) {
            value("w<d", pair[0], pair[1], 0, pair[0] < pair[1] ? 1 : 0);
            value("w=d", pair[0], pair[1], 0, pair[0] == pair[1] ? 1 : 0);
            value("w>d", pair[0], pair[1], 0, pair[0] > pair[1] ? 1 : 0);
        }
        value("w+1=d+2", 2, 1, 0, 1);
        for (String first : new String[] {"<", "=", ">"}) {
            for (String second : new String[] {"<", "=", ">"}) {
                fault("w" + first + "d" + second + "m", 0, 3);
                fault("(w" + first + "d)" + second + "m", 0, -1);
                fault("w" + first + "d&m" + second + "w", 0, -1);
                fault("w" + first + "d|m" + second + "w", 0, -1);
            }
        }
        fault("w<=d", 0, 2);
        fault("w+d<m*2=w", 0, 7);
    }

    private static void joinedByPlusAndMinus() {
        Due.term("S: P { + P, - P }.");
        value("2+3*4", 0, 0, 0, 14);
        value("20-5-3", 0, 0, 0, 12);
        value("20-5+3", 0, 0, 0, 18);
        value("20-(5+3)", 0, 0, 0, 12);
        value("50-7%4*2", 0, 0, 0, 44);
        fault("-1", 0, 0);
        fault("+1", 0, 0);
        fault("1+-1", 0, 2);
    }

    private static void joinedByTimes() {
        Due.term("P: Q { * Q, / Q, % Q }.");
        value("90/3/5", 0, 0, 0, 6);
        value("90/3*5/2", 0, 0, 0, 75);
        value("90%40/3", 0, 0, 0, 3);
        value("7*9%10", 0, 0, 0, 3);
        value("(2+3)*4", 0, 0, 0, 20);
        fault("2**3", 0, 2);
        fault("/2", 0, 0);
    }

    private static void singles() {
        Due.term("Q: a NUMBER of 1 to 4 digits, a NAME, ! Q, ( T ).");
        value("m", 5, 6, 7, 7);
        value("!w*5", 0, 0, 0, 5);
        value("!w*5", -1, 0, 0, 0);
        value("!!w", 7, 0, 0, 1);
        value("!(w-7)+3", 7, 0, 0, 4);
        value("!w+1", 0, 0, 0, 2);
        value("(w|d)+1", 0, 4, 0, 2);
        fault("()", 0, 1);
        fault("!", 0, 1);
        fault("w!", 0, 1);
        fault("wd", 0, 1);
        fault("w1", 0, 1);
        fault("1w", 0, 1);
        fault("w(d)", 0, 1);
        fault("(w)d", 0, 3);
        fault("(w)1", 0, 3);
    }

    private static void numbers() {
        Due.term("a NUMBER of 1 to 4 digits");
        value("0", 5, 6, 7, 0);
        value("7", 5, 6, 7, 7);
        value("42", 5, 6, 7, 42);
        value("9999/101", 5, 6, 7, 99);
        value("0099", 0, 0, 0, 99);
        value("0000+8", 0, 0, 0, 8);
        fault("12345", 0, 4);
        fault("00000", 0, 4);
        fault("(12345", 0, 5);
        fault("1+12345", 0, 6);
        fault("!12345", 0, 5);
    }

    private static void noBlanks() {
        Due.term("No blanks.");
        fault(" w", 0, 0);
        fault("w ", 0, 1);
        fault("w +1", 0, 1);
        fault("w+ 1", 0, 2);
        fault("( w)", 0, 1);
        fault("1 2", 0, 1);
        fault(" ", 0, 0);
    }

    private static void atMostFiveOpen() {
        Due.term("At most 5 of ! and ( are open at once.");
        whole("!!!!!w");
        fault("!!!!!!w", 0, 5);
        whole("(((((w)))))");
        fault("((((((w))))))", 0, 5);
        fault("!!!!!(w)", 0, 5);
        fault("(((((!w)))))", 0, 5);
        whole("!(!(!w))");
        whole("!(!(!1234))");
        fault("!(!(!(w)))", 0, 5);
        whole("!!!!!w+!!!!!w");
        whole("(((((w)))))*(((((w)))))");
        whole("(!w+!w+(((w))))");
        whole("(!w+!w+(((!w))))");
        fault("(!w+!w+(((!!w))))", 0, 11);
        whole("((((!w+!w))))");
        fault("((((!(w)))))", 0, 5);
    }

    private static void intsWrap() {
        Due.term("Ints that wrap;");
        value("(w+1<0)*33", MAX, 0, 0, 33);
        value("(w-1>0)*33", MIN, 0, 0, 33);
        value("(w*w=1)*33", MAX, 0, 0, 33);
        value("w*w", 65536, 0, 0, 0);
        value("w*d", 65537, 65536, 0, 99);
        value("(w*d=w)*33", MIN, -1, 0, 33);
        value("(9999*9999*22<0)*33", 0, 0, 0, 33);
        value("(w/d=w)*40", MIN, -1, 0, 40);
        value("w%d+3", MIN, -1, 0, 3);
    }

    private static void cutAndRest() {
        Due.term("/ cut, % the rest that it leaves");
        value("w/d+10", 7, 2, 0, 13);
        value("w/d+10", -7, 2, 0, 7);
        value("w/d+10", 7, -2, 0, 7);
        value("w/d+10", -7, -2, 0, 13);
        value("w%d+10", 7, 2, 0, 11);
        value("w%d+10", -7, 2, 0, 9);
        value("w%d+10", 7, -2, 0, 11);
        value("w%d+10", -7, -2, 0, 9);
        value("w/d+10", -1, 2, 0, 10);
    }

    private static void byZero() {
        Due.term("both by 0 are 0;");
        value("w/d+5", 7, 0, 0, 5);
        value("w%d+5", 7, 0, 0, 5);
        value("0/0+5", 0, 0, 0, 5);
        value("0%0+5", 0, 0, 0, 5);
        value("w/(d-d)+5", MIN, 9, 0, 5);
        value("w%(d-d)+5", MIN, 9, 0, 5);
    }

    private static void oneOrZero() {
        Due.term("| & < = > ! are 1 or 0, what is not 0 being true;");
        value("(w|d)*10", 6, 8, 0, 10);
        value("(w&d)*10", 6, 9, 0, 10);
        value("(w|d)*10", MIN, 0, 0, 10);
        value("(w&d)*10", MIN, -1, 0, 10);
        value("(w<d)*10", 6, 8, 0, 10);
        value("(w=d)*10", 8, 8, 0, 10);
        value("(w>d)*10", 9, 8, 0, 10);
        value("!w*10", 0, 0, 0, 10);
        value("!w*10", MIN, 0, 0, 0);
        value("!w*10", 1, 0, 0, 0);
        value("!!w*10", MIN, 0, 0, 10);
    }

    private static void allIsWorkedOut() {
        Due.term("all is worked out.");
        value("0&1/0", 0, 0, 0, 0);
        value("1|1/0", 0, 0, 0, 1);
        value("0&0|1", 0, 0, 0, 1);
        value("w*100+d*10+m", 0, 4, 2, 42);
    }

    private static void faults() {
        Due.term("FAULT: the place of the first byte with which no TEXT goes on;");
        fault("w", 0, -1);
        fault("w", 1, 0);
        fault("s", 1, -1);
        fault("s", 0, 0);
        fault("r+d", 1, -1);
        fault("w+d*m", 0, -1);
        fault("w+s", 0, 2);
        fault("w+w", 1, 0);
        fault("w++", 0, 2);
        fault("w+)", 0, 2);
        fault("w)", 0, 1);
        fault("(w))", 0, 3);
        fault("w|&", 0, 2);
        fault("w" + (char) 233, 0, 1);
        fault("?)(", 0, 0);
        fault("w+1234567", 0, 6);
        fault("w" + "+w".repeat(24) + "w", 0, 49);
    }

    /** Each of the 256 bytes as the first one, behind a NAME, behind digits, behind ( and behind a comparison. */
    private static void everyByte() {
        Due.term("the first byte with which no TEXT goes on;");
        for (int use = 0; use < 2; use++) {
            String name = NAMES[use].substring(0, 1);
            for (int b = 0; b < 256; b++) {
                char c = (char) b;
                boolean digit = c >= '0' && c <= '9';
                boolean single = digit || NAMES[use].indexOf(c) >= 0;
                boolean opens = c == '!' || c == '(';
                boolean joins = SIGNS.indexOf(c) >= 0;
                fault("" + c, use, single ? -1 : opens ? 1 : 0);
                fault(name + c, use, joins ? 2 : 1);
                fault("123" + c, use, digit ? -1 : joins ? 4 : 3);
                fault("1234" + c, use, joins ? 5 : 4);
                fault("(" + c, use, single || opens ? 2 : 1);
                fault("(1234" + c, use, joins || c == ')' ? c == ')' ? -1 : 6 : 5);
                boolean compares = "<=>".indexOf(c) >= 0;
                fault("1=1234" + c, use, joins && !compares ? 7 : 6);
            }
        }
    }

    private static void endsTooEarly() {
        Due.term("how many there are, if it ends too early.");
        fault("", 0, 0);
        fault("", 1, 0);
        fault("w+", 0, 2);
        fault("w&", 0, 2);
        fault("w<", 0, 2);
        fault("(w", 0, 2);
        fault("(", 0, 1);
        fault("!!", 0, 2);
        fault("((((", 0, 4);
        fault("(((((", 0, 5);
        fault("(w+(1)", 0, 6);
        fault("w" + "+w".repeat(24) + "+", 0, 50);
        fault("(w" + "+w".repeat(24), 0, 50);
    }

    private static void drops() {
        Due.term("0 DROPS, NAMES w WEAR, d DAY, m m; held within 0 to 99; without a TEXT 12.");
        Due.is("without a text", new RainShares().law(0, 9, 9, 9), 12);
        value("w", -1, 5, 5, 0);
        value("w", 0, 5, 5, 0);
        value("w", 99, 5, 5, 99);
        value("w", 100, 5, 5, 99);
        value("w", MIN, 5, 5, 0);
        value("w", MAX, 5, 5, 99);
        RainShares x = Due.onDay(3);
        x.roof(0);
        x.cloud(8, 0);
        x.lead(0, 1, 5);
        Due.write(x, 0, "w*10+d*2+m");
        Due.is("of a cloud", x.ofCloud(0, 6), 64);
    }

    private static void price() {
        Due.term("1 PRICE (of a drop too much), NAMES s SHARES, r RANK, d DAY; held within 0 to 9; without a TEXT 1.");
        RainShares x = Due.onDay(3);
        Due.is("without a text", x.law(1, 9, 9, 9), 1);
        Due.write(x, 1, "s");
        int[] shares = {MIN, -1, 0, 9, 10, MAX};
        int[] due = {0, 0, 0, 9, 9, 9};
        for (int i = 0; i < shares.length; i++) {
            Due.is("of " + shares[i], x.law(1, shares[i], 5, 5), due[i]);
        }
        x.roof(4);
        x.change(0, 2, 2);
        x.cloud(0, 0);
        Due.write(x, 0, "5");
        Due.write(x, 1, "s*4-r*5-d");
        x.days(1);
        Due.is("of a roof", x.ofRoof(0, 1), 3);
    }

    private static void feed() {
        Due.promise(14, "The n lowest bytes (1 .. 8) of a word, the lowest first, come to THE TAPE: how many there are.");
        RainShares x = new RainShares();
        Due.is("1", x.feed(0x2B39L, 1), 1);
        Due.is("on the tape", x.count(7), 1);
        Due.is("8 behind it", x.feed(0x392B_392B_392B_392BL, 8), 9);
        Due.is("text", x.text(0), 1);
        Due.is("9+9+9+9+9", x.law(0, 0, 0, 0), 45);
        x.feed(0x12345678_77_2D_39L, 3);
        Due.is("the other bytes don't come", x.text(0), 1);
        Due.is("9-w", x.law(0, 4, 0, 0), 5);
        x.feed(0x39_2A_39_2B_39_2D_39_37L, 8);
        Due.is("the eighth", x.text(0), 1);
        Due.is("79-9+9*9", x.law(0, 0, 0, 0), 99);
        x.feed(0xB9L, 1);
        Due.is("a byte above 127 is no digit", x.text(0), -10);
        x.feed(0xFFFFFFFFFFFFFF39L, 1);
        Due.is("of a word below 0", x.text(0), 1);
        Due.is("9", x.law(0, 0, 0, 0), 9);
    }

    private static void feedBeyond() {
        Due.promise(14, "BEYOND.");
        RainShares x = new RainShares();
        Due.is("n 0", x.feed('9', 0), Due.BEYOND);
        Due.is("n -1", x.feed('9', -1), Due.BEYOND);
        Due.is("n 9", x.feed('9', 9), Due.BEYOND);
        Due.is("nothing came", x.count(7), 0);
    }

    private static void feedFull() {
        Due.promise(14, "FULL.");
        RainShares x = new RainShares();
        for (int i = 1; i <= 6; i++) {
            Due.is("many", x.feed(-1L, 8), 8 * i);
        }
        Due.is("51", x.feed(0, 3), Due.FULL);
        Due.is("nothing of it came", x.count(7), 48);
        Due.is("56", x.feed(0, 8), Due.FULL);
        Due.is("50", x.feed(0, 2), 50);
        Due.is("51", x.feed(0, 1), Due.FULL);
        x.text(0);
        Due.is("there is room then", x.feed(0, 8), 8);
    }

    private static void text() {
        Due.promise(15, "THE TAPE, which is empty then, is the TEXT of a USE (0, 1), in place of one ahead: 1.");
        RainShares x = new RainShares();
        Due.is("use 0", Due.write(x, 0, "7"), 1);
        Due.is("the tape is empty", x.count(7), 0);
        Due.is("7", x.law(0, 0, 0, 0), 7);
        Due.is("the other use has none", x.law(1, 0, 0, 0), 1);
        Due.is("use 1", Due.write(x, 1, "d"), 1);
        Due.is("d", x.law(1, 0, 0, 5), 5);
        Due.is("in place", Due.write(x, 0, "9+d"), 1);
        Due.is("9+d", x.law(0, 0, 4, 0), 13);
        Due.is("in place of a longer one", Due.write(x, 0, "8"), 1);
        Due.is("8", x.law(0, 0, 4, 0), 8);
        Due.is("the other use's stays", x.law(1, 0, 0, 5), 5);
    }

    private static void textBeyond() {
        Due.promise(15, "BEYOND (THE TAPE stays).");
        RainShares x = new RainShares();
        Due.feed(x, "7");
        Due.is("use 2", x.text(2), Due.BEYOND);
        Due.is("use -1", x.text(-1), Due.BEYOND);
        Due.is("the tape stays", x.count(7), 1);
        Due.is("its text", x.text(0), 1);
        Due.is("7", x.law(0, 0, 0, 0), 7);
    }

    private static void textFault() {
        Due.promise(15, "-10 less the FAULT (no ERROR; the one ahead stays; THE TAPE is empty, too).");
        RainShares x = new RainShares();
        Due.is("the empty tape", x.text(0), -10);
        Due.is("none ahead", x.law(0, 0, 0, 0), 12);
        Due.write(x, 0, "7+w");
        Due.is("a fault", Due.write(x, 0, "8+"), -12);
        Due.is("the tape is empty", x.count(7), 0);
        Due.is("the one ahead stays", x.law(0, 4, 0, 0), 11);
        Due.is("the greatest fault", Due.write(x, 0, "8" + "+8".repeat(24) + "+"), -60);
        Due.is("the one ahead stays", x.law(0, 4, 0, 0), 11);
        Due.is("no errors", Due.errorsInAll(x), 0);
    }

    private static void law() {
        Due.promise(16, "What a USE gives with its NAMES in order as a, b, c.");
        RainShares x = new RainShares();
        Due.write(x, 0, "w-d*m");
        Due.write(x, 1, "s-r*d");
        Due.is("use 0", x.law(0, 50, 2, 3), 44);
        Due.is("use 1", x.law(1, 10, 2, 3), 4);
        Due.is("any numbers", x.law(0, MIN, MIN, MAX), 0);
        Due.is("any numbers", x.law(0, MAX, 0, MIN), 99);
        Due.is("day does not matter", Due.onDay(60).law(0, 1, 1, 1), 12);
    }

    private static void lawBeyond() {
        Due.promise(16, "BEYOND.");
        RainShares x = new RainShares();
        Due.is("use 2", x.law(2, 0, 0, 0), Due.BEYOND);
        Due.is("use -1", x.law(-1, 0, 0, 0), Due.BEYOND);
    }
}
