/** Promises 1 to 8. */
public final class RoofsTest {
    public static void main(String[] args) {
        newObject();
        roofAndOfRoof();
        change();
        oweAndOwed();
        pay();
        sell();
        Due.end();
    }

    private static void newObject() {
        RainShares x = new RainShares();
        int[] due = {0, 0, 0, 0, 0, 0, -1, 0, 0, 0, 1};
        for (int what = 0; what < due.length; what++) {
            Due.is("1: count(" + what + ")", x.count(what), due[what]);
        }
        for (int k = 1; k <= 5; k++) {
            Due.is("1: told(" + k + ")", x.told(k), 0);
        }
        Due.is("1: law 0", x.law(0, 1, 2, 3), 12);
        Due.is("1: law 1", x.law(1, 1, 2, 3), 1);
        Due.is("1: no roof", x.ofRoof(0, 0), Due.BEYOND);
        Due.is("1: no cloud", x.ofCloud(0, 0), Due.BEYOND);
        Due.is("1: no sheet", x.judge(0), Due.NONE);
        Due.is("1: no trace", x.trace(0), Due.NONE);
        Due.is("1: no image", x.restore(), Due.NONE);
        new RainShares().roof(5);
        Due.is("1: objects are apart", x.count(0), 0);
    }

    private static void roofAndOfRoof() {
        RainShares x = new RainShares();
        Due.is("2: below", x.roof(-1), Due.BEYOND);
        Due.is("2: above", x.roof(100), Due.BEYOND);
        int[] shares = {0, 99, 10, 20, 30, 40};
        for (int i = 0; i < 6; i++) {
            Due.is("2: number", x.roof(shares[i]), i);
        }
        Due.is("2: full", x.roof(10), Due.FULL);
        Due.is("2: BEYOND ahead of FULL", x.roof(100), Due.BEYOND);
        for (int i = 0; i < 6; i++) {
            Due.is("3: shares", x.ofRoof(i, 0), shares[i]);
            for (int what = 1; what <= 5; what++) {
                Due.is("3: at first", x.ofRoof(i, what), 0);
            }
        }
        Due.is("3: roof 6", x.ofRoof(6, 0), Due.BEYOND);
        Due.is("3: roof -1", x.ofRoof(-1, 0), Due.BEYOND);
        Due.is("3: what 6", x.ofRoof(0, 6), Due.BEYOND);
        Due.is("3: what -1", x.ofRoof(0, -1), Due.BEYOND);
        x.cloud(0, 1);
        x.cloud(0, 0);
        x.cloud(0, 1);
        Due.is("3: clouds over 1", x.ofRoof(1, 4), 5);
        Due.is("3: clouds over 0", x.ofRoof(0, 4), 2);
        Due.is("3: clouds over 2", x.ofRoof(2, 4), 0);
        x.owe(2, 0, 999);
        x.owe(2, 5, 1);
        x.owe(0, 2, 7);
        Due.is("3: owed in all", x.ofRoof(2, 5), 1000);
        Due.is("3: owed in all", x.ofRoof(0, 5), 7);
        Due.is("3: owed in all", x.ofRoof(5, 5), 0);
        x.days(1);
        Due.is("3: got", x.ofRoof(1, 2), 24);
    }

    private static void change() {
        RainShares x = Due.valley(10, 20);
        int[] most = {99, 9999, 99};
        int[] place = {0, 1, 3};
        int[] first = {20, 0, 0};
        for (int what = 0; what < 3; what++) {
            Due.is("4: was", x.change(1, what, most[what]), first[what]);
            Due.is("4: is", x.ofRoof(1, place[what]), most[what]);
            Due.is("4: above", x.change(1, what, most[what] + 1), Due.BEYOND);
            Due.is("4: below", x.change(1, what, -1), Due.BEYOND);
            Due.is("4: stays", x.ofRoof(1, place[what]), most[what]);
            Due.is("4: was", x.change(1, what, 0), most[what]);
        }
        Due.is("4: the other one", x.ofRoof(0, 0), 10);
        Due.is("4: what", x.change(1, 3, 0), Due.BEYOND);
        Due.is("4: what", x.change(1, -1, 0), Due.BEYOND);
        Due.is("4: roof", x.change(2, 0, 0), Due.BEYOND);
        Due.is("4: roof", x.change(-1, 0, 0), Due.BEYOND);
        Due.is("4: told", x.told(1), 10);
    }

    private static void oweAndOwed() {
        RainShares x = Due.valley(10, 20, 30);
        Due.is("5: was", x.owe(0, 1, 999), 0);
        Due.is("5: was", x.owe(0, 1, 5), 999);
        Due.is("6: owed", x.owed(0, 1), 5);
        Due.is("6: the other way", x.owed(1, 0), 0);
        Due.is("5: one and the same", x.owe(1, 1, 5), Due.BEYOND);
        Due.is("6: one and the same", x.owed(1, 1), Due.BEYOND);
        Due.is("5: above", x.owe(0, 1, 1000), Due.BEYOND);
        Due.is("5: below", x.owe(0, 1, -1), Due.BEYOND);
        Due.is("5: roof", x.owe(3, 1, 1), Due.BEYOND);
        Due.is("5: roof", x.owe(-1, 1, 1), Due.BEYOND);
        Due.is("5: other", x.owe(0, 3, 1), Due.BEYOND);
        Due.is("5: other", x.owe(0, -1, 1), Due.BEYOND);
        Due.is("6: roof", x.owed(3, 0), Due.BEYOND);
        Due.is("6: other", x.owed(0, -1), Due.BEYOND);
        Due.is("6: stays", x.owed(0, 1), 5);
        Due.is("5: to 0", x.owe(0, 1, 0), 5);
        Due.is("6: 0", x.owed(0, 1), 0);
    }

    private static void pay() {
        RainShares x = Due.valley(10, 20);
        x.change(1, 1, 9999);
        Due.is("7: left", x.pay(1, 1), 9998);
        Due.is("7: too much", x.pay(1, 9999), Due.STATE);
        Due.is("7: all", x.pay(1, 9998), 0);
        Due.is("7: has fewer", x.pay(1, 1), Due.STATE);
        Due.is("7: 0", x.pay(1, 0), Due.BEYOND);
        Due.is("7: 10000", x.pay(1, 10000), Due.BEYOND);
        Due.is("7: roof", x.pay(2, 1), Due.BEYOND);
        Due.is("7: told", x.told(3), 2);
    }

    private static void sell() {
        RainShares x = Due.valley(50, 60, 0);
        Due.is("8: left", x.sell(0, 1, 39), 11);
        Due.is("8: more for the other one", x.ofRoof(1, 0), 99);
        Due.is("8: above 99", x.sell(0, 1, 1), Due.STATE);
        Due.is("8: has fewer", x.sell(0, 2, 12), Due.STATE);
        Due.is("8: all", x.sell(0, 2, 11), 0);
        Due.is("8: all 99", x.sell(1, 0, 99), 0);
        Due.is("8: nothing changed", x.ofRoof(2, 0), 11);
        Due.is("8: v 0", x.sell(0, 1, 0), Due.BEYOND);
        Due.is("8: v 100", x.sell(0, 1, 100), Due.BEYOND);
        Due.is("8: one and the same", x.sell(0, 0, 1), Due.BEYOND);
        Due.is("8: roof", x.sell(3, 0, 1), Due.BEYOND);
        Due.is("8: other", x.sell(0, 3, 1), Due.BEYOND);
    }
}
