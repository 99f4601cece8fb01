/** Promises 1 to 8, and what the Terms tell of ROOFS. */
public final class RoofsTest {
    public static void main(String[] args) {
        newObject();
        objectsAreApart();
        atMostSixRoofs();
        sharesWithin();
        arrearsWithin();
        gotIsHeld();
        rankWithin();
        owedWithin();
        roof();
        roofBeyond();
        roofFull();
        ofRoof();
        ofRoofBeyond();
        change();
        changeBeyond();
        owe();
        oweBeyond();
        owed();
        owedBeyond();
        pay();
        payBeyond();
        payState();
        sell();
        sellBeyond();
        sellState();
        Due.end();
    }

    private static void newObject() {
        Due.promise(1, "All as at first; no ROOFS, CLOUDS.");
        RainShares x = new RainShares();
        int[] due = {0, 0, 0, 0, 0, 0, -1, 0, 0, 0, 1};
        for (int what = 0; what < due.length; what++) {
            Due.is("count(" + what + ")", x.count(what), due[what]);
        }
        for (int k = 1; k <= 5; k++) {
            Due.is("told(" + k + ")", x.told(k), 0);
        }
        Due.is("law 0", x.law(0, 1, 2, 3), 12);
        Due.is("law 1", x.law(1, 1, 2, 3), 1);
        Due.is("no roof", x.ofRoof(0, 0), Due.BEYOND);
        Due.is("no cloud", x.ofCloud(0, 0), Due.BEYOND);
        for (int sheet = 0; sheet < 4; sheet++) {
            Due.is("no sheet", x.judge(sheet), Due.NONE);
        }
        Due.is("no trace", x.trace(0), Due.NONE);
        Due.is("no image", x.restore(), Due.NONE);
        Due.is("how often an image was made", x.image(), 1);
    }

    private static void objectsAreApart() {
        Due.promise(1, "All as at first; no ROOFS, CLOUDS.");
        RainShares x = new RainShares();
        RainShares spent = ErrorsTest.rich();
        spent.roof(5);
        Due.holds("another object's calls are not seen", Seen.all(x).equals(Seen.all(new RainShares())));
    }

    private static void atMostSixRoofs() {
        Due.term("ROOFS 0, 1, .. (at most 6)");
        RainShares x = new RainShares();
        for (int r = 0; r < 6; r++) {
            Due.is("roof " + r, x.roof(10), r);
            Due.is("roofs", x.count(0), r + 1);
        }
        Due.is("a seventh", x.roof(10), Due.FULL);
        Due.is("roofs", x.count(0), 6);
        Due.is("roof 5", x.ofRoof(5, 0), 10);
        Due.is("roof 6", x.ofRoof(6, 0), Due.BEYOND);
    }

    private static void sharesWithin() {
        Due.term("SHARES (0 to 99; 10 at first)");
        RainShares x = Due.valley(0, 99);
        Due.is("0", x.ofRoof(0, 0), 0);
        Due.is("99", x.ofRoof(1, 0), 99);
        Due.is("becomes 99", x.change(0, 0, 99), 0);
        Due.is("becomes 0", x.change(0, 0, 0), 99);
        Due.is("0 again", x.ofRoof(0, 0), 0);
    }

    private static void arrearsWithin() {
        Due.term("ARREARS (0 to 9999; 0 at first)");
        RainShares x = Due.valley(10, 20);
        Due.is("at first", x.ofRoof(1, 1), 0);
        Due.is("becomes 9999", x.change(1, 1, 9999), 0);
        Due.is("9999", x.ofRoof(1, 1), 9999);
        Due.is("becomes 0", x.change(1, 1, 0), 9999);
        Due.is("0", x.ofRoof(1, 1), 0);
        Due.is("a roof's that comes later", x.ofRoof(x.roof(5), 1), 0);
    }

    /** LEASED CLOUDS with m 0, that stay over ROOF 0. */
    private static void gotIsHeld() {
        Due.term("GOT (drops; 0 at first; held at 99999)");
        RainShares x = Due.valley(99, 0);
        Due.is("at first", x.ofRoof(0, 2), 0);
        for (int c = 0; c < 5; c++) {
            x.cloud(30, 0);
        }
        Due.write(x, 0, "99");
        for (int left = 202; left > 0; left -= 20) {
            wear(x, 0);
            x.days(Math.min(20, left));
        }
        Due.is("202 times 495", x.ofRoof(0, 2), 99990);
        wear(x, 99);
        x.lead(0, 1, 0);
        Due.write(x, 0, "8");
        Due.is("one fewer", x.days(1), 99998);
        Due.write(x, 0, "1");
        Due.is("just as many", x.days(1), 99999);
        Due.is("no more", x.days(1), 99999);
        Due.is("no more", x.ofRoof(0, 2), 99999);
        x.become(0, 0);
        x.change(0, 0, 0);
        x.change(0, 1, 0);
        Due.write(x, 0, "50");
        x.days(1);
        Due.is("yet all that fell is too much", x.ofRoof(0, 1), 50);
        Due.is("still", x.ofRoof(0, 2), 99999);
        Due.is("the other roof's is its own", x.ofRoof(1, 2), 0);
    }

    private static void wear(RainShares x, int wear) {
        for (int c = 0; c < 5; c++) {
            x.lead(c, 1, wear);
        }
    }

    private static void rankWithin() {
        Due.term("RANK (0 to 99; 0 at first)");
        RainShares x = Due.valley(10);
        Due.is("at first", x.ofRoof(0, 3), 0);
        Due.is("becomes 99", x.change(0, 2, 99), 0);
        Due.is("99", x.ofRoof(0, 3), 99);
        Due.is("becomes 0", x.change(0, 2, 0), 99);
        Due.is("0", x.ofRoof(0, 3), 0);
    }

    private static void owedWithin() {
        Due.term("OWED from one ROOF to another one (0 to 999; 0 at first).");
        RainShares x = Due.valley(10, 20);
        Due.is("at first", x.owed(1, 0), 0);
        Due.is("becomes 999", x.owe(1, 0, 999), 0);
        Due.is("999", x.owed(1, 0), 999);
        Due.is("the other way", x.owed(0, 1), 0);
        Due.is("becomes 0", x.owe(1, 0, 0), 999);
        Due.is("0", x.owed(1, 0), 0);
        x.roof(30);
        Due.is("a roof's that comes later", x.owed(2, 0) + x.owed(0, 2), 0);
    }

    private static void roof() {
        Due.promise(2, "A ROOF with SHARES: its number.");
        RainShares x = new RainShares();
        int[] shares = {0, 99, 10, 20, 30, 40};
        for (int i = 0; i < 6; i++) {
            Due.is("number", x.roof(shares[i]), i);
        }
        for (int i = 0; i < 6; i++) {
            Due.is("shares", x.ofRoof(i, 0), shares[i]);
        }
    }

    private static void roofBeyond() {
        Due.promise(2, "BEYOND.");
        RainShares x = new RainShares();
        Due.is("below", x.roof(-1), Due.BEYOND);
        Due.is("above", x.roof(100), Due.BEYOND);
        Due.is("no roof then", x.count(0), 0);
    }

    private static void roofFull() {
        Due.promise(2, "FULL.");
        RainShares x = Due.valley(1, 2, 3, 4, 5);
        Due.is("the last one", x.roof(6), 5);
        Due.is("full", x.roof(7), Due.FULL);
        Due.is("full again", x.roof(0), Due.FULL);
    }

    private static void ofRoof() {
        Due.promise(3, "Of a ROOF: 0 SHARES, 1 ARREARS, 2 GOT, 3 RANK, 4 CLOUDS that are OVER it, as a set, "
            + "5 what it has OWED to all others together.");
        RainShares x = Due.valley(11, 22, 33, 44, 55, 66);
        for (int r = 0; r < 6; r++) {
            Due.is("shares", x.ofRoof(r, 0), 11 * r + 11);
            for (int what = 1; what <= 5; what++) {
                Due.is("at first", x.ofRoof(r, what), 0);
            }
        }
        x.cloud(0, 1);
        x.cloud(0, 0);
        x.cloud(0, 1);
        x.lead(2, 1, 99);
        Due.is("clouds over 1, a spent one, too", x.ofRoof(1, 4), 5);
        Due.is("clouds over 0", x.ofRoof(0, 4), 2);
        Due.is("clouds over 2", x.ofRoof(2, 4), 0);
        x.owe(0, 2, 7);
        for (int other = 0; other < 5; other++) {
            x.owe(5, other, 999);
        }
        Due.is("owed in all", x.ofRoof(5, 5), 5 * 999);
        Due.is("owed in all", x.ofRoof(0, 5), 7);
        Due.is("owed to it does not count", x.ofRoof(2, 5), 0);
        x.change(1, 1, 8);
        x.change(1, 2, 9);
        Due.is("arrears", x.ofRoof(1, 1), 8);
        Due.is("rank", x.ofRoof(1, 3), 9);
        x.days(1);
        Due.is("got", x.ofRoof(1, 2), 12);
    }

    private static void ofRoofBeyond() {
        Due.promise(3, "BEYOND.");
        RainShares x = Due.valley(1, 2, 3, 4, 5, 6);
        Due.is("no roofs", new RainShares().ofRoof(0, 0), Due.BEYOND);
        Due.is("roof 6", x.ofRoof(6, 0), Due.BEYOND);
        Due.is("roof -1", x.ofRoof(-1, 0), Due.BEYOND);
        Due.is("one more than there are", Due.valley(1).ofRoof(1, 0), Due.BEYOND);
        Due.is("what 6", x.ofRoof(0, 6), Due.BEYOND);
        Due.is("what -1", x.ofRoof(0, -1), Due.BEYOND);
    }

    private static void change() {
        Due.promise(4, "SHARES (what 0), ARREARS (1), RANK (2) of a ROOF becomes v: what it was.");
        RainShares x = Due.valley(10, 20);
        int[] place = {0, 1, 3};
        int[] first = {20, 0, 0};
        for (int what = 0; what < 3; what++) {
            Due.is("was", x.change(1, what, 40 + what), first[what]);
            Due.is("is", x.ofRoof(1, place[what]), 40 + what);
            Due.is("the same once more", x.change(1, what, 40 + what), 40 + what);
        }
        for (int what = 0; what < 3; what++) {
            Due.is("no other one changed", x.ofRoof(1, place[what]), 40 + what);
        }
        Due.is("the other roof", x.ofRoof(0, 0), 10);
        Due.is("the other roof", x.ofRoof(0, 1) + x.ofRoof(0, 3), 0);
    }

    private static void changeBeyond() {
        Due.promise(4, "BEYOND.");
        RainShares x = Due.valley(10, 20);
        int[] most = {99, 9999, 99};
        for (int what = 0; what < 3; what++) {
            Due.is("above", x.change(1, what, most[what] + 1), Due.BEYOND);
            Due.is("below", x.change(1, what, -1), Due.BEYOND);
        }
        Due.is("they stay", x.ofRoof(1, 0), 20);
        Due.is("they stay", x.ofRoof(1, 1) + x.ofRoof(1, 3), 0);
        Due.is("what 3", x.change(1, 3, 0), Due.BEYOND);
        Due.is("what -1", x.change(1, -1, 0), Due.BEYOND);
        Due.is("roof", x.change(2, 0, 0), Due.BEYOND);
        Due.is("roof", x.change(-1, 0, 0), Due.BEYOND);
    }

    private static void owe() {
        Due.promise(5, "OWED from a ROOF to another one becomes v: what it was.");
        RainShares x = Due.valley(10, 20, 30);
        Due.is("was", x.owe(0, 1, 999), 0);
        Due.is("was", x.owe(0, 1, 5), 999);
        Due.is("is", x.owed(0, 1), 5);
        Due.is("the other way", x.owed(1, 0), 0);
        Due.is("to a third", x.owed(0, 2), 0);
        Due.is("to 0", x.owe(0, 1, 0), 5);
        Due.is("is", x.owed(0, 1), 0);
    }

    private static void oweBeyond() {
        Due.promise(5, "BEYOND: also one and the same.");
        RainShares x = Due.valley(10, 20, 30);
        x.owe(0, 1, 5);
        for (int r = 0; r < 3; r++) {
            Due.is("one and the same", x.owe(r, r, 5), Due.BEYOND);
        }
        Due.is("above", x.owe(0, 1, 1000), Due.BEYOND);
        Due.is("below", x.owe(0, 1, -1), Due.BEYOND);
        Due.is("roof", x.owe(3, 1, 1), Due.BEYOND);
        Due.is("roof", x.owe(-1, 1, 1), Due.BEYOND);
        Due.is("other", x.owe(0, 3, 1), Due.BEYOND);
        Due.is("other", x.owe(0, -1, 1), Due.BEYOND);
        Due.is("it stays", x.owed(0, 1), 5);
        Due.is("a roof alone", Due.valley(1).owe(0, 1, 1), Due.BEYOND);
    }

    private static void owed() {
        Due.promise(6, "OWED from a ROOF to another one.");
        RainShares x = Due.valley(1, 2, 3, 4, 5, 6);
        for (int a = 0; a < 6; a++) {
            for (int b = 0; b < 6; b++) {
                if (a != b) {
                    x.owe(a, b, 10 * a + b);
                }
            }
        }
        for (int a = 0; a < 6; a++) {
            for (int b = 0; b < 6; b++) {
                if (a != b) {
                    Due.is("owed " + a + " " + b, x.owed(a, b), 10 * a + b);
                }
            }
        }
    }

    private static void owedBeyond() {
        Due.promise(6, "BEYOND: also one and the same.");
        RainShares x = Due.valley(10, 20, 30);
        Due.is("one and the same", x.owed(1, 1), Due.BEYOND);
        Due.is("one and the same", x.owed(0, 0), Due.BEYOND);
        Due.is("roof", x.owed(3, 0), Due.BEYOND);
        Due.is("roof", x.owed(-1, 0), Due.BEYOND);
        Due.is("other", x.owed(0, 3), Due.BEYOND);
        Due.is("other", x.owed(0, -1), Due.BEYOND);
    }

    private static void pay() {
        Due.promise(7, "A ROOF pays v (1 to 9999) of its ARREARS: what is left.");
        RainShares x = Due.valley(10, 20);
        x.change(1, 1, 9999);
        x.change(0, 1, 3);
        Due.is("1", x.pay(1, 1), 9998);
        Due.is("it has so many", x.ofRoof(1, 1), 9998);
        Due.is("all that there is", x.pay(1, 9998), 0);
        x.change(1, 1, 9999);
        Due.is("9999", x.pay(1, 9999), 0);
        Due.is("the other roof's stay", x.ofRoof(0, 1), 3);
    }

    private static void payBeyond() {
        Due.promise(7, "BEYOND.");
        RainShares x = Due.valley(10, 20);
        x.change(1, 1, 9999);
        Due.is("0", x.pay(1, 0), Due.BEYOND);
        Due.is("-1", x.pay(1, -1), Due.BEYOND);
        Due.is("10000", x.pay(1, 10000), Due.BEYOND);
        Due.is("roof", x.pay(2, 1), Due.BEYOND);
        Due.is("roof", x.pay(-1, 1), Due.BEYOND);
        Due.is("they stay", x.ofRoof(1, 1), 9999);
    }

    private static void payState() {
        Due.promise(7, "STATE: it has fewer.");
        RainShares x = Due.valley(10);
        Due.is("none", x.pay(0, 1), Due.STATE);
        x.change(0, 1, 8);
        Due.is("one fewer", x.pay(0, 9), Due.STATE);
        Due.is("they stay", x.ofRoof(0, 1), 8);
        Due.is("as many", x.pay(0, 8), 0);
        Due.is("told", x.told(3), 2);
    }

    private static void sell() {
        Due.promise(8, "v (1 to 99) SHARES come from a ROOF to another one: how many the first one has left.");
        RainShares x = Due.valley(50, 60, 0);
        Due.is("1", x.sell(0, 1, 1), 49);
        Due.is("more for the other one", x.ofRoof(1, 0), 61);
        Due.is("fewer for the first one", x.ofRoof(0, 0), 49);
        Due.is("38", x.sell(0, 1, 38), 11);
        Due.is("99", x.sell(1, 2, 99), 0);
        Due.is("all of them", x.ofRoof(2, 0), 99);
    }

    private static void sellBeyond() {
        Due.promise(8, "BEYOND: also one and the same.");
        RainShares x = Due.valley(99, 0, 30);
        Due.is("v 0", x.sell(0, 1, 0), Due.BEYOND);
        Due.is("v -1", x.sell(0, 1, -1), Due.BEYOND);
        Due.is("v 100", x.sell(0, 1, 100), Due.BEYOND);
        Due.is("one and the same", x.sell(2, 2, 1), Due.BEYOND);
        Due.is("roof", x.sell(3, 0, 1), Due.BEYOND);
        Due.is("roof", x.sell(-1, 0, 1), Due.BEYOND);
        Due.is("other", x.sell(0, 3, 1), Due.BEYOND);
        Due.is("other", x.sell(0, -1, 1), Due.BEYOND);
        Due.is("they stay", x.ofRoof(0, 0) - x.ofRoof(1, 0) + x.ofRoof(2, 0), 129);
    }

    private static void sellState() {
        Due.promise(8, "STATE: it has fewer, or the other one would have more than 99.");
        RainShares x = Due.valley(11, 90, 50);
        Due.is("one fewer", x.sell(0, 2, 12), Due.STATE);
        Due.is("one too many for the other one", x.sell(2, 1, 10), Due.STATE);
        Due.is("they stay", x.ofRoof(0, 0), 11);
        Due.is("they stay", x.ofRoof(1, 0), 90);
        Due.is("they stay", x.ofRoof(2, 0), 50);
        Due.is("just 99", x.sell(2, 1, 9), 41);
        Due.is("just all", x.sell(0, 2, 11), 0);
        Due.is("99 and 1", x.sell(2, 1, 1), Due.STATE);
        Due.is("0 less 1", x.sell(0, 2, 1), Due.STATE);
    }
}
