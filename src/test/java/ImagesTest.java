/** Promises 37 to 42. */
public final class ImagesTest {
    private static final int MIN = Integer.MIN_VALUE;
    private static final int MAX = Integer.MAX_VALUE;

    public static void main(String[] args) {
        imageKeepsAll();
        imageLeavesOut();
        imageInPlaceOfOneAhead();
        restore();
        restoreAnEmptyOne();
        restoreFewerRoofs();
        restoreNone();
        tell();
        tellFull();
        checkAllAre();
        checkTheFirst();
        checkNoneWaitThen();
        countRoofsAndClouds();
        countDayGotArrears();
        countSpent();
        countMostArrears();
        countTheRest();
        countBeyond();
        told();
        toldBeyond();
        Due.end();
    }

    private static void spoil(RainShares x) {
        x.roof(50);
        x.cloud(60, 0);
        for (int r = 0; r < 2; r++) {
            for (int what = 0; what < 3; what++) {
                x.change(r, what, 61 + what);
            }
            x.owe(r, 1 - r, 700);
        }
        x.become(0, 55);
        x.lead(0, 0, 1);
        x.lead(0, 1, 2);
        x.days(5);
        x.seed(10);
        x.text(0);
        Due.write(x, 0, "3");
        Due.write(x, 1, "4");
        Due.feed(x, "99");
        x.check();
        x.tell(17);
    }

    private static void imageKeepsAll() {
        Due.promise(37, "is kept as an IMAGE");
        RainShares x = ErrorsTest.rich();
        RainShares y = ErrorsTest.rich();
        x.image();
        y.image();
        spoil(x);
        x.restore();
        x.voice(0, 0, 0);
        y.voice(0, 0, 0);
        Due.holds("all is as it was", Seen.all(x).equals(Seen.all(y)));
    }

    private static void imageLeavesOut() {
        Due.promise(37, "All (but SHEETS, THE TRACE, what told() tells, and how often this was done)");
        RainShares x = Due.valley(10);
        x.cloud(0, 0);
        x.sheet(0, 8, 1);
        x.image();
        x.put(0, 0, 9);
        x.sheet(1, 16, 1);
        x.voice(0, 3, 1);
        x.roof(100);
        x.image();
        x.restore();
        x.shares(0);
        Due.is("sheets stay", x.ofRoof(0, 0), 9);
        Due.is("sheets stay", x.judge(1), -1);
        Due.is("the trace stays", x.count(9), 4);
        Due.is("the trace stays", x.trace(1), 11);
        Due.is("errors stay", x.told(1), 1);
        Due.is("how often stays", x.image(), 3);
    }

    private static void imageInPlaceOfOneAhead() {
        Due.promise(37, "in place of one ahead: how often that was done.");
        RainShares x = new RainShares();
        Due.is("first", x.image(), 1);
        x.roof(10);
        Due.is("second", x.image(), 2);
        x.roof(20);
        x.restore();
        Due.is("the second one", x.count(0), 1);
        for (int i = 3; i <= 60; i++) {
            Due.is("how often", x.image(), i);
        }
    }

    private static void restore() {
        Due.promise(38, "All is as the IMAGE has it, which stays: DAY.");
        RainShares x = ErrorsTest.rich();
        x.image();
        for (int again = 0; again < 3; again++) {
            String before = Seen.valley(x);
            spoil(x);
            Due.is("day", x.restore(), 5);
            Due.holds("as before", Seen.valley(x).equals(before));
            Due.is("what waits", x.count(8), 3);
            Due.is("what waits is so", x.check(), 0);
            Due.is("the tape", x.text(0), 1);
            Due.is("the tape's text", x.law(0, 5, 0, 8), 5 + 6 + 8);
            Due.is("day", x.restore(), 5);
        }
        RainShares last = Due.onDay(9999);
        last.image();
        Due.is("the last day", last.restore(), 9999);
    }

    private static void restoreAnEmptyOne() {
        Due.promise(38, "All is as the IMAGE has it");
        RainShares x = new RainShares();
        x.image();
        for (int i = 0; i < 6; i++) {
            x.roof(9);
        }
        for (int i = 0; i < 5; i++) {
            x.cloud(0, 0);
        }
        x.days(3);
        x.tell(1);
        Due.write(x, 0, "5");
        Due.feed(x, "77");
        Due.is("day", x.restore(), 0);
        RainShares y = new RainShares();
        y.image();
        Due.holds("as a new one", Seen.all(x).equals(Seen.all(y)));
        Due.is("a new roof is the first", x.roof(7), 0);
    }

    private static void restoreFewerRoofs() {
        Due.promise(38, "All is as the IMAGE has it");
        RainShares x = Due.valley(10);
        x.image();
        x.roof(20);
        for (int what = 0; what < 3; what++) {
            x.change(1, what, 9);
        }
        x.owe(0, 1, 8);
        x.owe(1, 0, 8);
        x.cloud(0, 1);
        x.lead(0, 1, 5);
        x.days(1);
        x.restore();
        x.roof(30);
        x.cloud(0, 0);
        for (int what = 1; what < 6; what++) {
            Due.is("a new roof is as at first", x.ofRoof(1, what), 0);
        }
        Due.is("nothing is owed", x.owed(0, 1), 0);
        Due.is("a new cloud is as at first", x.ofCloud(0, 3), 0);
    }

    private static void restoreNone() {
        Due.promise(38, "NONE: there is none.");
        RainShares x = Due.valley(10);
        Due.is("none", x.restore(), Due.NONE);
        Due.is("none again", x.restore(), Due.NONE);
        Due.is("nothing changed", x.count(0), 1);
        x.image();
        Due.is("one", x.restore(), 0);
    }

    private static void tell() {
        Due.promise(39, "One more number waits: how many.");
        RainShares x = new RainShares();
        int[] any = {0, MIN, MAX, -1000000001, -1};
        for (int i = 0; i < any.length; i++) {
            Due.is("any number", x.tell(any[i]), i + 1);
            Due.is("how many", x.count(8), i + 1);
        }
    }

    private static void tellFull() {
        Due.promise(39, "FULL: 20 wait.");
        RainShares x = new RainShares();
        for (int i = 1; i <= 20; i++) {
            Due.is("how many", x.tell(0), i);
        }
        Due.is("full", x.tell(1), Due.FULL);
        Due.is("20", x.count(8), 20);
        Due.is("the 21st did not come", x.check(), 0);
        Due.is("there is room then", x.tell(0), 1);
    }

    private static void checkAllAre() {
        Due.promise(40, "are GOT of all ROOFS together behind 1, 2, .. DAYS: 0;");
        RainShares x = Due.valley(10, 20);
        Due.is("nothing waits", x.check(), 0);
        x.cloud(0, 0);
        x.days(1);
        for (int i = 2; i <= 20; i++) {
            x.tell(12 * i);
        }
        Due.is("19 are", x.check(), 0);
        x.tell(24);
        Due.is("one is", x.check(), 0);
        RainShares none = new RainShares();
        none.tell(0);
        none.tell(0);
        Due.is("no roofs", none.check(), 0);
    }

    private static void checkTheFirst() {
        Due.promise(40, "else 1 and the place (from 0) of the first that isn't so.");
        RainShares x = Due.valley(10);
        x.cloud(0, 0);
        for (int wrong = 0; wrong < 20; wrong++) {
            for (int i = 0; i < 20; i++) {
                x.tell(12 * (i + 1) + (i >= wrong ? 1 : 0));
            }
            Due.is("place " + wrong, x.check(), 1 + wrong);
        }
        x.tell(12);
        x.tell(23);
        x.tell(36);
        Due.is("though a later one is", x.check(), 2);
        x.tell(0);
        Due.is("got of now does not count", x.check(), 1);
        x.tell(MIN);
        Due.is("any number", x.check(), 1);
    }

    private static void checkNoneWaitThen() {
        Due.promise(40, "The numbers that wait (none do then)");
        RainShares x = Due.valley(10);
        x.cloud(0, 0);
        x.tell(12);
        Due.is("as they are", x.check(), 0);
        Due.is("none wait", x.count(8), 0);
        x.tell(12);
        x.tell(99);
        x.tell(99);
        Due.is("as one isn't", x.check(), 2);
        Due.is("none wait", x.count(8), 0);
        Due.is("nothing waits", x.check(), 0);
        Due.is("no day passed", x.count(2), 0);
        Due.is("nothing fell", x.count(3), 0);
    }

    private static void countRoofsAndClouds() {
        Due.promise(41, "0 ROOFS, 1 CLOUDS,");
        RainShares x = Due.valley(1, 2, 3, 4, 5, 6);
        x.roof(7);
        Due.is("roofs", x.count(0), 6);
        Due.is("clouds", x.count(1), 0);
        for (int i = 0; i < 6; i++) {
            x.cloud(0, 0);
        }
        Due.is("clouds", x.count(1), 5);
    }

    private static void countDayGotArrears() {
        Due.promise(41, "2 DAY, 3 GOT of all ROOFS together, 4 ARREARS of all together,");
        RainShares x = Due.valley(10, 20, 5);
        x.cloud(20, 0);
        x.cloud(0, 1);
        x.days(2);
        Due.is("day", x.count(2), 2);
        Due.is("got", x.count(3), 48);
        Due.is("arrears", x.count(4), 9);
        RainShares y = Due.valley(1, 2, 3, 4, 5, 6);
        for (int r = 0; r < 6; r++) {
            y.change(r, 1, 9999);
        }
        Due.is("as many as may be", y.count(4), 59994);
    }

    private static void countSpent() {
        Due.promise(41, "5 how many CLOUDS are SPENT,");
        RainShares x = Due.valley(10);
        for (int c = 0; c < 5; c++) {
            x.cloud(20, 0);
            x.lead(c, 1, 14);
        }
        Due.is("none", x.count(5), 0);
        for (int c = 0; c < 5; c++) {
            x.lead(c, 1, 15);
            Due.is("spent", x.count(5), c + 1);
        }
        x.become(2, 0);
        Due.is("one lasts longer now", x.count(5), 4);
    }

    private static void countMostArrears() {
        Due.promise(41, "6 the ROOF with most ARREARS (of several the least; -1: there are none),");
        Due.is("there are none", new RainShares().count(6), -1);
        RainShares x = Due.valley(1, 2, 3);
        Due.is("all 0", x.count(6), 0);
        x.change(2, 1, 7);
        Due.is("the last", x.count(6), 2);
        x.change(1, 1, 7);
        Due.is("the least of two", x.count(6), 1);
        x.change(0, 1, 6);
        Due.is("one has fewer", x.count(6), 1);
        x.change(0, 1, 7);
        Due.is("the least of three", x.count(6), 0);
    }

    private static void countTheRest() {
        Due.promise(41, "7 bytes of THE TAPE, 8 numbers that wait, 9 BODIES in THE TRACE, 10 z (any number).");
        RainShares x = Due.valley(10);
        x.cloud(0, 0);
        Due.feed(x, "abcdefghij");
        Due.is("bytes", x.count(7), 10);
        x.tell(1);
        x.tell(1);
        Due.is("waiting", x.count(8), 2);
        x.voice(0, 3, 0);
        Due.is("bodies", x.count(9), 4);
        for (int z : new int[] {0, MIN, MAX, -1000000001, -1000000005}) {
            x.seed(z);
            Due.is("z", x.count(10), z);
        }
        Due.is("no errors", Due.errorsInAll(x), 0);
    }

    private static void countBeyond() {
        Due.promise(41, "BEYOND.");
        RainShares x = new RainShares();
        Due.is("what 11", x.count(11), Due.BEYOND);
        Due.is("what -1", x.count(-1), Due.BEYOND);
    }

    private static void told() {
        Due.promise(42, "How many acts have answered an ERROR LOW - k (k 1 .. 5);");
        RainShares x = Due.valley(10);
        x.cloud(0, 0);
        for (int k = 1; k <= 5; k++) {
            Due.is("none yet", x.told(k), 0);
        }
        x.roof(-1);
        x.restore();
        x.restore();
        for (int i = 0; i < 3; i++) {
            x.pay(0, 1);
        }
        for (int i = 0; i < 24; i++) {
            x.tell(0);
        }
        for (int i = 0; i < 5; i++) {
            x.as(0, 1);
        }
        for (int k = 1; k <= 5; k++) {
            Due.is("k " + k, x.told(k), k);
            Due.is("asking does not count", x.told(k), k);
        }
    }

    private static void toldBeyond() {
        Due.promise(42, "BEYOND: another k (counted, too).");
        RainShares x = new RainShares();
        int[] others = {0, 6, -1, MIN, MAX};
        for (int i = 0; i < others.length; i++) {
            Due.is("k " + others[i], x.told(others[i]), Due.BEYOND);
            Due.is("counted", x.told(1), i + 1);
        }
        Due.is("but not for another", x.told(2) + x.told(3) + x.told(4) + x.told(5), 0);
    }
}
