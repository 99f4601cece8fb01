/** Promises 14 to 16. */
public final class TextsTest {
    public static void main(String[] args) {
        feed();
        faults();
        textInPlace();
        values();
        laws();
        Due.end();
    }

    private static void feed() {
        RainShares x = new RainShares();
        Due.is("14: n 0", x.feed(1, 0), Due.BEYOND);
        Due.is("14: n 9", x.feed(1, 9), Due.BEYOND);
        for (int i = 1; i <= 6; i++) {
            Due.is("14: many", x.feed(-1L, 8), 8 * i);
        }
        Due.is("14: full", x.feed(0, 3), Due.FULL);
        Due.is("14: still", x.count(7), 48);
        Due.is("14: 50", x.feed(0, 2), 50);
        Due.is("14: full", x.feed(0, 1), Due.FULL);
        Due.is("14: BEYOND ahead of FULL", x.feed(0, 0), Due.BEYOND);
        Due.is("14: bytes above 127", x.text(0), -10);
        Due.is("14: empty then", x.count(7), 0);
        x.feed(0x12345678_77_2D_39L, 3);
        Due.is("14: the lowest first, the others not", x.text(0), 1);
        Due.is("14: 9-w", x.law(0, 4, 0, 0), 5);
    }

    private static void fault(String text, int use, int due) {
        RainShares x = new RainShares();
        Due.is("15: " + text, Due.write(x, use, text), due < 0 ? 1 : -10 - due);
        Due.is("15: the tape is empty", x.count(7), 0);
    }

    private static void faults() {
        fault("", 0, 0);
        fault("w", 0, -1);
        fault("w", 1, 0);
        fault("s", 1, -1);
        fault("r+d", 1, -1);
        fault("w+d*m", 0, -1);
        fault("w+s", 0, 2);
        fault("1234", 0, -1);
        fault("12345", 0, 4);
        fault("(12345", 0, 5);
        fault("0000", 0, -1);
        fault("w d", 0, 1);
        fault(" w", 0, 0);
        fault("w+", 0, 2);
        fault("w++", 0, 2);
        fault("-1", 0, 0);
        fault("w<d", 0, -1);
        fault("w<d<m", 0, 3);
        fault("w<d=m", 0, 3);
        fault("(w<d)<m", 0, -1);
        fault("w<d&m>1|w=2", 0, -1);
        fault("w<d&m>1>1", 0, 7);
        fault("w&", 0, 2);
        fault("w|&", 0, 2);
        fault("(w", 0, 2);
        fault("(w)", 0, -1);
        fault("w)", 0, 1);
        fault("()", 0, 1);
        fault("(w))", 0, 3);
        fault("!", 0, 1);
        fault("!w", 0, -1);
        fault("w!", 0, 1);
        fault("wd", 0, 1);
        fault("w1", 0, 1);
        fault("!!!!!w", 0, -1);
        fault("!!!!!!w", 0, 5);
        fault("(((((w)))))", 0, -1);
        fault("((((((w))))))", 0, 5);
        fault("!(!(!w))", 0, -1);
        fault("!(!(!(w)))", 0, 5);
        fault("!!!!!w+!!!!!w", 0, -1);
        fault("(!w+!w+(((w))))", 0, -1);
        fault("(!w+!w+(((!!w))))", 0, 11);
        fault("((((", 0, 4);
        fault("w" + "+w".repeat(24), 0, -1);
        fault("w" + "+w".repeat(24) + "+", 0, 50);
        fault("w" + (char) 233, 0, 1);
    }

    private static void textInPlace() {
        RainShares x = new RainShares();
        Due.feed(x, "7");
        Due.is("15: use 2", x.text(2), Due.BEYOND);
        Due.is("15: use -1", x.text(-1), Due.BEYOND);
        Due.is("15: the tape stays", x.count(7), 1);
        Due.is("15: 1", x.text(0), 1);
        Due.is("16: 7", x.law(0, 0, 0, 0), 7);
        Due.is("15: a fault", Due.write(x, 0, "8+"), -12);
        Due.is("15: the one ahead stays", x.law(0, 0, 0, 0), 7);
        Due.is("15: in place", Due.write(x, 0, "9"), 1);
        Due.is("16: 9", x.law(0, 0, 0, 0), 9);
        Due.is("16: the other use has none", x.law(1, 0, 0, 0), 1);
        Due.is("15: a fault is no error", x.told(1), 2);
    }

    private static void value(String text, int a, int b, int c, int due) {
        RainShares x = new RainShares();
        Due.write(x, 0, text);
        Due.is("16: " + text, x.law(0, a, b, c), due);
    }

    private static void values() {
        int min = Integer.MIN_VALUE;
        int max = Integer.MAX_VALUE;
        value("2+3*4", 0, 0, 0, 14);
        value("(2+3)*4", 0, 0, 0, 20);
        value("20-5-3", 0, 0, 0, 12);
        value("90/3/5", 0, 0, 0, 6);
        value("50-7%4*2", 0, 0, 0, 44);
        value("w/d", 7, 0, 0, 0);
        value("w%d+5", 7, 0, 0, 5);
        value("w/d+10", -7, 2, 0, 7);
        value("w%d+10", -7, 2, 0, 9);
        value("(w/d=w)*40", min, -1, 0, 40);
        value("w%d+3", min, -1, 0, 3);
        value("(w+1<0)*33", max, 0, 0, 33);
        value("(w*w=1)*33", max, 0, 0, 33);
        value("(w-1>0)*33", min, 0, 0, 33);
        value("w|d", 0, -5, 0, 1);
        value("w|d", 0, 0, 0, 0);
        value("w&d", 3, 4, 0, 1);
        value("w&d", 3, 0, 0, 0);
        value("w&d", 4, 3, 0, 1);
        value("w&d", 0, 4, 0, 0);
        value("w|d&m", 1, 1, 0, 1);
        value("(w|d)&m", 1, 1, 0, 0);
        value("1+(w<d)", 1, 2, 0, 2);
        value("w<d", 2, 2, 0, 0);
        value("w>d", 3, 2, 0, 1);
        value("w>d", 2, 2, 0, 0);
        value("w>d", 1, 2, 0, 0);
        value("w<d", 3, 2, 0, 0);
        value("w=d", 3, 2, 0, 0);
        value("0", 5, 6, 7, 0);
        value("1", 5, 6, 7, 1);
        value("m", 5, 6, 7, 7);
        value("w=d", 3, 3, 0, 1);
        value("w+1=d&m", 2, 3, 9, 1);
        value("!w*5", 0, 0, 0, 5);
        value("!w*5", -1, 0, 0, 0);
        value("!!w", 7, 0, 0, 1);
        value("!(w-7)+3", 7, 0, 0, 4);
        value("w*100+d*10+m", 0, 4, 2, 42);
        value("9999", 0, 0, 0, 99);
        value("0-1", 0, 0, 0, 0);
        value("0099", 0, 0, 0, 99);
    }

    private static void laws() {
        RainShares x = new RainShares();
        Due.is("16: without a text", x.law(0, 9, 9, 9), 12);
        Due.is("16: without a text", x.law(1, 9, 9, 9), 1);
        Due.is("16: use", x.law(2, 0, 0, 0), Due.BEYOND);
        Due.is("16: use", x.law(-1, 0, 0, 0), Due.BEYOND);
        Due.write(x, 1, "s-r*d");
        Due.is("16: held", x.law(1, 100, 0, 0), 9);
        Due.is("16: held", x.law(1, 0, 1, 1), 0);
        Due.is("16: names in order", x.law(1, 10, 2, 3), 4);
    }
}
