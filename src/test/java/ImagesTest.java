/** Promises 37 to 42. */
public final class ImagesTest {
    public static void main(String[] args) {
        imageAndRestore();
        whatAnImageLeavesOut();
        tellAndCheck();
        count();
        told();
        Due.end();
    }

    private static void imageAndRestore() {
        RainShares x = Due.valley(10, 20);
        Due.is("38: none", x.restore(), Due.NONE);
        x.cloud(13, 1);
        x.owe(0, 1, 5);
        x.change(0, 2, 8);
        Due.write(x, 0, "w+7");
        Due.write(x, 1, "2");
        x.days(3);
        x.seed(9);
        Due.feed(x, "w+1");
        x.tell(4);
        Due.is("37: first", x.image(), 1);
        int[] counts = new int[11];
        for (int what = 0; what < 11; what++) {
            counts[what] = x.count(what);
        }
        spoil(x);
        for (int again = 0; again < 2; again++) {
            Due.is("38: day", x.restore(), 3);
            for (int what = 0; what < 11; what++) {
                if (what != 9) {
                    Due.is("38: count " + what, x.count(what), counts[what]);
                }
            }
            Due.is("38: owed", x.owed(0, 1), 5);
            Due.is("38: rank", x.ofRoof(0, 3), 8);
            Due.is("38: shares", x.ofRoof(0, 0), 10);
            Due.is("38: arrears", x.ofRoof(0, 1) + x.ofRoof(1, 1), counts[4]);
            Due.is("38: kind", x.ofCloud(0, 0), 1);
            Due.is("38: m", x.ofCloud(0, 1), 3);
            Due.is("38: wear", x.ofCloud(0, 3), 3);
            Due.is("38: over", x.ofCloud(0, 2), 0);
            Due.is("38: law", x.law(0, 1, 0, 0), 8);
            Due.is("38: law", x.law(1, 1, 0, 0), 2);
            Due.is("38: the tape", x.text(0), 1);
            Due.is("38: the tape's text", x.law(0, 1, 0, 0), 2);
            Due.is("38: what waits", x.check(), 1);
            spoil(x);
        }
        Due.is("37: second", x.image(), 2);
        x.restore();
        Due.is("37: in place of the one ahead", x.count(0), 3);
        Due.is("37: how often is not kept", x.image(), 3);
    }

    private static void spoil(RainShares x) {
        x.roof(50);
        x.cloud(60, 0);
        x.owe(0, 1, 700);
        x.change(0, 2, 1);
        x.change(0, 0, 70);
        x.change(1, 1, 71);
        x.become(0, 55);
        x.lead(0, 1, 2);
        x.days(5);
        x.seed(10);
        x.text(0);
        Due.write(x, 0, "3");
        Due.write(x, 1, "4");
        x.tell(17);
    }

    private static void whatAnImageLeavesOut() {
        RainShares x = Due.valley(10);
        x.cloud(0, 0);
        x.sheet(0, 8, 1);
        x.image();
        x.put(0, 0, 9);
        x.voice(0, 3, 1);
        x.roof(100);
        x.restore();
        x.shares(0);
        Due.is("38: sheets stay", x.ofRoof(0, 0), 9);
        Due.is("38: the trace stays", x.count(9), 4);
        Due.is("38: errors stay", x.told(1), 1);
        Due.is("37: how often stays", x.image(), 2);
        RainShares y = new RainShares();
        y.image();
        y.roof(1);
        y.tell(1);
        Due.is("38: an empty one", y.restore(), 0);
        Due.is("38: an empty one", y.count(0) + y.count(8), 0);
        newRoofBehindAnImage();
    }

    private static void newRoofBehindAnImage() {
        RainShares x = Due.valley(10);
        x.image();
        x.roof(20);
        for (int what = 0; what < 3; what++) {
            x.change(1, what, 9);
        }
        x.owe(0, 1, 8);
        x.owe(1, 0, 8);
        x.cloud(0, 1);
        x.lead(0, 1, 5);
        x.days(1);
        x.restore();
        x.roof(30);
        x.cloud(0, 0);
        for (int what = 1; what < 6; what++) {
            Due.is("38: a new roof is as at first", x.ofRoof(1, what), 0);
        }
        Due.is("38: nothing is owed", x.owed(0, 1), 0);
        Due.is("38: a new cloud is as at first", x.ofCloud(0, 3), 0);
    }

    private static void tellAndCheck() {
        RainShares x = Due.valley(10);
        x.cloud(0, 0);
        Due.is("40: nothing waits", x.check(), 0);
        for (int i = 1; i <= 20; i++) {
            Due.is("39: many", x.tell(12 * i), i);
        }
        Due.is("39: full", x.tell(0), Due.FULL);
        Due.is("40: all are", x.check(), 0);
        Due.is("40: none waits then", x.count(8), 0);
        x.tell(12);
        x.tell(23);
        x.tell(35);
        Due.is("40: the second", x.check(), 2);
        Due.is("40: none waits then", x.count(8), 0);
        x.tell(-1);
        Due.is("40: the first", x.check(), 1);
        Due.is("40: only thought", x.count(3), 0);
        Due.is("39: anew", x.tell(Integer.MIN_VALUE), 1);
    }

    private static void count() {
        RainShares x = Due.valley(10, 20, 5);
        Due.is("41: roofs", x.count(0), 3);
        x.cloud(20, 0);
        x.cloud(0, 1);
        Due.is("41: clouds", x.count(1), 2);
        x.days(2);
        Due.is("41: day", x.count(2), 2);
        Due.is("41: got", x.count(3), 48);
        Due.is("41: arrears", x.count(4), 9);
        Due.is("41: none spent", x.count(5), 0);
        x.lead(0, 1, 15);
        Due.is("41: spent", x.count(5), 1);
        Due.is("41: most arrears", x.count(6), 2);
        x.change(1, 1, 7);
        x.change(2, 1, 7);
        Due.is("41: the least", x.count(6), 1);
        Due.feed(x, "abcdefghij");
        Due.is("41: bytes", x.count(7), 10);
        x.tell(1);
        x.tell(1);
        Due.is("41: waiting", x.count(8), 2);
        x.voice(1, 3, 0);
        Due.is("41: bodies", x.count(9), 4);
        x.seed(-1000000001);
        Due.is("41: z", x.count(10), -1000000001);
        Due.is("41: no error", x.told(1), 0);
        Due.is("41: what", x.count(11), Due.BEYOND);
        Due.is("41: what", x.count(-1), Due.BEYOND);
    }

    private static void told() {
        RainShares x = Due.valley(10);
        x.cloud(0, 0);
        x.roof(-1);
        x.restore();
        x.restore();
        for (int i = 0; i < 3; i++) {
            x.pay(0, 1);
        }
        for (int i = 0; i < 24; i++) {
            x.tell(0);
        }
        for (int i = 0; i < 5; i++) {
            x.as(0, 1);
        }
        for (int k = 1; k <= 5; k++) {
            Due.is("42: " + k, x.told(k), k);
        }
        Due.is("42: another", x.told(0), Due.BEYOND);
        Due.is("42: another", x.told(6), Due.BEYOND);
        Due.is("42: counted, too", x.told(1), 3);
    }
}
