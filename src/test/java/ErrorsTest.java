/** What the Terms tell of ERRORS: their numbers, their order, and that a refused call changes nothing. */
public final class ErrorsTest {
    private static final int MIN = Integer.MIN_VALUE;
    private static final int MAX = Integer.MAX_VALUE;

    interface Call {
        int on(RainShares x);
    }

    public static void main(String[] args) {
        numbersOfErrors();
        changesNothingByRoofs();
        changesNothingByClouds();
        changesNothingByTextsAndDays();
        changesNothingByThoughts();
        changesNothingBySheets();
        changesNothingByTheRest();
        changesNothingWhereAllIsFull();
        changesNothingOnTheLastDay();
        orderOfErrors();
        orderWhereAllIsFull();
        orderOnTheLastDay();
        Due.end();
    }

    private static void numbersOfErrors() {
        Due.term("ERRORS are answers below -1000000000: LOW is -1000000000; LOW - 1 BEYOND, LOW - 2 NONE, "
            + "LOW - 3 STATE, LOW - 4 FULL, LOW - 5 KIND.");
        RainShares x = full();
        Due.is("BEYOND", x.roof(-1), -1000000001);
        Due.is("NONE", x.trace(0), -1000000002);
        Due.is("STATE", x.sheet(0, 8, -1), -1000000003);
        Due.is("FULL", x.roof(1), -1000000004);
        Due.is("KIND", x.as(0, 1), -1000000005);
        x.seed(-1000000000);
        Due.is("LOW itself is none", x.seed(-1000000001), -1000000000);
        Due.is("nor is an answer that may be any number", x.seed(0), -1000000001);
        for (int k = 1; k <= 5; k++) {
            Due.is("each is counted for itself: " + k, x.told(k), 1);
        }
    }

    /** A valley in which all that can be seen differs from what it is at first. */
    static RainShares rich() {
        RainShares x = Due.valley(10, 20, 30);
        x.cloud(13, 0);
        x.cloud(25, 1);
        x.cloud(61, 2);
        x.change(0, 1, 40);
        x.change(1, 1, 30);
        x.change(1, 2, 5);
        x.owe(0, 1, 10);
        x.owe(1, 0, 4);
        x.owe(1, 2, 7);
        x.owe(2, 0, 9);
        Due.write(x, 0, "w+9");
        Due.write(x, 1, "s/9+1");
        x.days(3);
        x.seed(77);
        Due.feed(x, "w+6");
        tellWhatWillBe(x);
        x.image();
        x.days(2);
        x.lead(1, 1, 15);
        Due.feed(x, "+m");
        x.check();
        tellWhatWillBe(x);
        x.voice(0, 3, 2);
        Due.lay(x, 0, 8, 1, 2, 3);
        Due.lay(x, 1, 16, 4, 5, 6, 7);
        Due.lay(x, 2, 32, 8, 99);
        return x;
    }

    private static void tellWhatWillBe(RainShares x) {
        for (int n = 1; n <= 3; n++) {
            int sum = 0;
            for (int r = 0; r < x.count(0); r++) {
                sum += x.then(n, r, 1);
            }
            x.tell(sum);
        }
    }

    /** As much of all as there may be; all CLOUDS are of KIND 0. */
    private static RainShares full() {
        RainShares x = Due.valley(10, 20, 30, 40, 50, 60);
        for (int c = 0; c < 5; c++) {
            x.cloud(c, c);
        }
        Due.feed(x, "w" + "+m".repeat(24) + "+");
        for (int i = 0; i < 20; i++) {
            x.tell(i);
        }
        return x;
    }

    private static void refused(String call, int due, Call act) {
        RainShares x = rich();
        RainShares y = rich();
        askAndCompare(call, due, act, x);
        Due.holds(call + " changes nothing", Seen.all(x).equals(Seen.all(y)));
    }

    private static void askAndCompare(String call, int due, Call act, RainShares x) {
        int[] told = new int[6];
        for (int k = 1; k <= 5; k++) {
            told[k] = x.told(k);
        }
        Due.is(call, act.on(x), due);
        for (int k = 1; k <= 5; k++) {
            Due.is("told(" + k + ") behind " + call, x.told(k), told[k] + (due == Due.LOW - k ? 1 : 0));
        }
    }

    private static void beyond(String call, Call act) {
        refused(call, Due.BEYOND, act);
    }

    private static void changesNothing() {
        Due.term("one that answers an ERROR changes nothing but what told() tells.");
    }

    private static void changesNothingByRoofs() {
        changesNothing();
        for (int v : new int[] {MIN, -1, 100, MAX}) {
            beyond("roof(" + v + ")", x -> x.roof(v));
            beyond("change(0, 0, " + v + ")", x -> x.change(0, 0, v));
            beyond("change(0, 2, " + v + ")", x -> x.change(0, 2, v));
            beyond("sell(1, 0, " + v + ")", x -> x.sell(1, 0, v));
        }
        for (int r : new int[] {MIN, -1, 3, 6, MAX}) {
            beyond("ofRoof(" + r + ", 0)", x -> x.ofRoof(r, 0));
            beyond("change(" + r + ", 0, 1)", x -> x.change(r, 0, 1));
            beyond("owe(" + r + ", 0, 1)", x -> x.owe(r, 0, 1));
            beyond("owe(0, " + r + ", 1)", x -> x.owe(0, r, 1));
            beyond("owed(" + r + ", 0)", x -> x.owed(r, 0));
            beyond("owed(0, " + r + ")", x -> x.owed(0, r));
            beyond("pay(" + r + ", 1)", x -> x.pay(r, 1));
            beyond("sell(" + r + ", 0, 1)", x -> x.sell(r, 0, 1));
            beyond("sell(0, " + r + ", 1)", x -> x.sell(0, r, 1));
        }
        for (int v : new int[] {MIN, -1, 10000, MAX}) {
            beyond("change(0, 1, " + v + ")", x -> x.change(0, 1, v));
            beyond("pay(0, " + v + ")", x -> x.pay(0, v));
        }
        for (int v : new int[] {MIN, -1, 1000, MAX}) {
            beyond("owe(0, 1, " + v + ")", x -> x.owe(0, 1, v));
        }
        for (int what : new int[] {MIN, -1, 6, MAX}) {
            beyond("ofRoof(0, " + what + ")", x -> x.ofRoof(0, what));
        }
        for (int what : new int[] {MIN, -1, 3, MAX}) {
            beyond("change(0, " + what + ", 1)", x -> x.change(0, what, 1));
        }
        beyond("owe(1, 1, 5)", x -> x.owe(1, 1, 5));
        beyond("owed(1, 1)", x -> x.owed(1, 1));
        beyond("sell(1, 1, 5)", x -> x.sell(1, 1, 5));
        beyond("pay(0, 0)", x -> x.pay(0, 0));
        beyond("sell(1, 0, 0)", x -> x.sell(1, 0, 0));
        refused("pay(0, 9999)", Due.STATE, x -> x.pay(0, 9999));
        refused("sell(0, 1, 11)", Due.STATE, x -> x.sell(0, 1, 11));
    }

    private static void changesNothingByClouds() {
        changesNothing();
        for (int km : new int[] {MIN, -1, 70, MAX}) {
            beyond("cloud(" + km + ", 0)", x -> x.cloud(km, 0));
            beyond("become(0, " + km + ")", x -> x.become(0, km));
        }
        for (int r : new int[] {MIN, -1, 3, 6, MAX}) {
            beyond("cloud(0, " + r + ")", x -> x.cloud(0, r));
            beyond("lead(0, 0, " + r + ")", x -> x.lead(0, 0, r));
        }
        for (int c : new int[] {MIN, -1, 3, 5, MAX}) {
            beyond("ofCloud(" + c + ", 0)", x -> x.ofCloud(c, 0));
            beyond("become(" + c + ", 0)", x -> x.become(c, 0));
            beyond("as(" + c + ", 0)", x -> x.as(c, 0));
            beyond("lead(" + c + ", 0, 0)", x -> x.lead(c, 0, 0));
            beyond("voice(" + c + ", 0, 0)", x -> x.voice(c, 0, 0));
        }
        for (int what : new int[] {MIN, -1, 8, MAX}) {
            beyond("ofCloud(0, " + what + ")", x -> x.ofCloud(0, what));
        }
        for (int kind : new int[] {MIN, -1, 7, MAX}) {
            beyond("as(0, " + kind + ")", x -> x.as(0, kind));
        }
        for (int what : new int[] {MIN, -1, 2, MAX}) {
            beyond("lead(0, " + what + ", 0)", x -> x.lead(0, what, 0));
        }
        for (int v : new int[] {MIN, -1, 100, MAX}) {
            beyond("lead(0, 1, " + v + ")", x -> x.lead(0, 1, v));
        }
        for (int act : new int[] {MIN, -1, 4, MAX}) {
            beyond("voice(0, " + act + ", 0)", x -> x.voice(0, act, 0));
        }
        refused("as(0, 4)", Due.KIND, x -> x.as(0, 4));
    }

    private static void changesNothingByTextsAndDays() {
        changesNothing();
        for (int n : new int[] {MIN, -1, 0, 9, MAX}) {
            beyond("feed(55, " + n + ")", x -> x.feed(55, n));
        }
        for (int use : new int[] {MIN, -1, 2, MAX}) {
            beyond("text(" + use + ")", x -> x.text(use));
            beyond("law(" + use + ", 1, 1, 1)", x -> x.law(use, 1, 1, 1));
        }
        for (int n : new int[] {MIN, -1, 0, 61, MAX}) {
            beyond("days(" + n + ")", x -> x.days(n));
        }
        for (int n : new int[] {MIN, -1, 0, 41, MAX}) {
            beyond("loose(" + n + ")", x -> x.loose(n));
        }
    }

    private static void changesNothingByThoughts() {
        changesNothing();
        for (int n : new int[] {MIN, -1, 61, MAX}) {
            beyond("then(" + n + ", 0, 0)", x -> x.then(n, 0, 0));
            beyond("drought(0, " + n + ")", x -> x.drought(0, n));
            beyond("gains(0, 1, " + n + ")", x -> x.gains(0, 1, n));
        }
        for (int r : new int[] {MIN, -1, 3, 6, MAX}) {
            beyond("then(1, " + r + ", 0)", x -> x.then(1, r, 0));
            beyond("drought(" + r + ", 1)", x -> x.drought(r, 1));
            beyond("when(" + r + ", 1)", x -> x.when(r, 1));
            beyond("gains(" + r + ", 1, 1)", x -> x.gains(r, 1, 1));
        }
        for (int what : new int[] {MIN, -1, 2, MAX}) {
            beyond("then(1, 0, " + what + ")", x -> x.then(1, 0, what));
            beyond("sellers(1, " + what + ")", x -> x.sellers(1, what));
            beyond("fell(0, " + what + ")", x -> x.fell(0, what));
        }
        for (int v : new int[] {MIN, -1, 10000, MAX}) {
            beyond("when(0, " + v + ")", x -> x.when(0, v));
        }
        for (int v : new int[] {MIN, -1, 1000, MAX}) {
            beyond("sellers(" + v + ", 0)", x -> x.sellers(v, 0));
        }
        for (int v : new int[] {MIN, -1, 0, 21, MAX}) {
            beyond("gains(0, " + v + ", 1)", x -> x.gains(0, v, 1));
        }
        for (int n : new int[] {MIN, -1, 21, MAX}) {
            beyond("patches(" + n + ")", x -> x.patches(n));
        }
        beyond("drought(0, 0)", x -> x.drought(0, 0));
        refused("when(0, 9999)", Due.NONE, x -> x.when(0, 9999));
        refused("sellers(999, 0)", Due.NONE, x -> x.sellers(999, 0));
        refused("fell(0, 1)", Due.NONE, x -> x.fell(0, 1));
        refused("fell(1, 0)", Due.NONE, x -> x.fell(1, 0));
        refused("fell(3, 0)", Due.NONE, x -> x.fell(3, 0));
    }

    private static void changesNothingBySheets() {
        changesNothing();
        for (int s : new int[] {MIN, -1, 4, MAX}) {
            beyond("fell(" + s + ", 0)", x -> x.fell(s, 0));
            beyond("sheet(" + s + ", 8, 1)", x -> x.sheet(s, 8, 1));
            beyond("put(" + s + ", 0, 1)", x -> x.put(s, 0, 1));
            beyond("move(" + s + ", 0, 0, 0, 1)", x -> x.move(s, 0, 0, 0, 1));
            beyond("move(0, 0, " + s + ", 0, 1)", x -> x.move(0, 0, s, 0, 1));
            beyond("shares(" + s + ")", x -> x.shares(s));
            beyond("judge(" + s + ")", x -> x.judge(s));
        }
        for (int bits : new int[] {MIN, -8, 1, 7, 9, 24, 64, MAX}) {
            beyond("sheet(0, " + bits + ", 1)", x -> x.sheet(0, bits, 1));
        }
        for (int i : new int[] {MIN, -1, 3, 40, MAX}) {
            beyond("put(0, " + i + ", 9)", x -> x.put(0, i, 9));
            beyond("move(0, " + i + ", 0, 0, 1)", x -> x.move(0, i, 0, 0, 1));
            beyond("move(0, 0, 0, " + i + ", 1)", x -> x.move(0, 0, 0, i, 1));
        }
        for (int n : new int[] {MIN, -1, 4, MAX}) {
            beyond("move(0, 0, 0, 0, " + n + ")", x -> x.move(0, 0, 0, 0, n));
        }
        beyond("sheet(0, 8, 41)", x -> x.sheet(0, 8, 41));
        beyond("sheet(0, 8, MAX)", x -> x.sheet(0, 8, MAX));
        refused("sheet(0, 8, -1)", Due.STATE, x -> x.sheet(0, 8, -1));
        refused("sheet(0, 8, MIN)", Due.STATE, x -> x.sheet(0, 8, MIN));
        refused("put(3, 0, 1)", Due.NONE, x -> x.put(3, 0, 1));
        refused("move(3, 0, 0, 0, 1)", Due.NONE, x -> x.move(3, 0, 0, 0, 1));
        refused("move(0, 0, 3, 0, 1)", Due.NONE, x -> x.move(0, 0, 3, 0, 1));
        refused("move(0, 0, 1, 0, 1)", Due.KIND, x -> x.move(0, 0, 1, 0, 1));
        refused("shares(3)", Due.NONE, x -> x.shares(3));
        refused("judge(3)", Due.NONE, x -> x.judge(3));
    }

    private static void changesNothingByTheRest() {
        changesNothing();
        for (int i : new int[] {MIN, -1, 5, 40, MAX}) {
            refused("trace(" + i + ")", Due.NONE, x -> x.trace(i));
        }
        for (int what : new int[] {MIN, -1, 11, MAX}) {
            beyond("count(" + what + ")", x -> x.count(what));
        }
        for (int k : new int[] {MIN, -1, 0, 6, MAX}) {
            beyond("told(" + k + ")", x -> x.told(k));
        }
        RainShares x = new RainShares();
        Due.is("restore()", x.restore(), Due.NONE);
        Due.is("patches(0)", x.patches(0), Due.NONE);
        Due.holds("they change nothing", Seen.all(x).equals(Seen.all(new RainShares())));
    }

    private static void changesNothingWhereAllIsFull() {
        changesNothing();
        refusedInFull("roof(1)", x -> x.roof(1));
        refusedInFull("cloud(0, 0)", x -> x.cloud(0, 0));
        refusedInFull("feed(55, 1)", x -> x.feed(55, 1));
        refusedInFull("tell(1)", x -> x.tell(1));
    }

    private static void refusedInFull(String call, Call act) {
        RainShares x = full();
        askAndCompare(call, Due.FULL, act, x);
        Due.holds(call + " changes nothing", Seen.all(x).equals(Seen.all(full())));
    }

    private static void changesNothingOnTheLastDay() {
        changesNothing();
        RainShares x = lastDay();
        String before = Seen.valley(x);
        askAndCompare("days(1)", Due.STATE, y -> y.days(1), x);
        askAndCompare("loose(1)", Due.STATE, y -> y.loose(1), x);
        Due.holds("they change nothing", Seen.valley(x).equals(before));
    }

    private static RainShares lastDay() {
        RainShares x = Due.onDay(9999);
        x.roof(5);
        x.cloud(0, 0);
        return x;
    }

    private static void inOrder() {
        Due.term("Each act tells its ERRORS in the order in which they are asked;");
    }

    private static void orderOfErrors() {
        inOrder();
        RainShares x = rich();
        Due.is("pay: BEYOND, STATE", x.pay(0, 10000), Due.BEYOND);
        Due.is("pay: BEYOND, STATE", x.pay(3, 9999), Due.BEYOND);
        Due.is("sell: BEYOND, STATE", x.sell(0, 1, 100), Due.BEYOND);
        Due.is("sell: BEYOND, STATE", x.sell(0, 0, 99), Due.BEYOND);
        Due.is("sell: BEYOND, STATE", x.sell(0, 3, 99), Due.BEYOND);
        Due.is("as: BEYOND, KIND", x.as(0, 7), Due.BEYOND);
        Due.is("as: BEYOND, KIND", x.as(3, 6), Due.BEYOND);
        Due.is("when: BEYOND, NONE", x.when(3, 9999), Due.BEYOND);
        Due.is("when: BEYOND, NONE", x.when(0, 10000), Due.BEYOND);
        Due.is("sellers: BEYOND, NONE", x.sellers(1000, 0), Due.BEYOND);
        Due.is("sellers: BEYOND, NONE", x.sellers(999, 2), Due.BEYOND);
        Due.is("patches: BEYOND, NONE", new RainShares().patches(21), Due.BEYOND);
        Due.is("fell: BEYOND, NONE", x.fell(3, 2), Due.BEYOND);
        Due.is("fell: BEYOND, NONE", x.fell(1, -1), Due.BEYOND);
        Due.is("sheet: BEYOND, STATE", x.sheet(4, 8, -1), Due.BEYOND);
        Due.is("sheet: BEYOND, STATE", x.sheet(0, 9, -1), Due.BEYOND);
        Due.is("put: BEYOND of SHEET, NONE", x.put(4, 0, 0), Due.BEYOND);
        Due.is("put: NONE, BEYOND of number", x.put(3, -1, 0), Due.NONE);
        Due.is("move: BEYOND of SHEET, NONE", x.move(3, 0, 4, 0, 0), Due.BEYOND);
        Due.is("move: BEYOND of SHEET, NONE", x.move(-1, 0, 3, 0, 0), Due.BEYOND);
        Due.is("move: NONE, BEYOND of n", x.move(3, 0, 3, 0, -1), Due.NONE);
        Due.is("move: NONE, BEYOND of i", x.move(0, -1, 3, 0, 1), Due.NONE);
        Due.is("move: KIND, BEYOND of n", x.move(0, 0, 1, 0, -1), Due.KIND);
        Due.is("move: KIND, BEYOND of i", x.move(0, 9, 1, 0, 1), Due.KIND);
        Due.is("move: KIND, BEYOND of j", x.move(0, 0, 1, 9, 1), Due.KIND);
    }

    private static void orderWhereAllIsFull() {
        inOrder();
        RainShares x = full();
        Due.is("roof: BEYOND, FULL", x.roof(100), Due.BEYOND);
        Due.is("cloud: BEYOND, FULL", x.cloud(70, 0), Due.BEYOND);
        Due.is("cloud: BEYOND, FULL", x.cloud(0, 6), Due.BEYOND);
        Due.is("feed: BEYOND, FULL", x.feed(1, 9), Due.BEYOND);
        Due.is("feed: BEYOND, FULL", x.feed(1, 0), Due.BEYOND);
    }

    private static void orderOnTheLastDay() {
        inOrder();
        RainShares x = lastDay();
        Due.is("days: BEYOND, STATE", x.days(61), Due.BEYOND);
        Due.is("days: BEYOND, STATE", x.days(0), Due.BEYOND);
        Due.is("loose: BEYOND, STATE", x.loose(41), Due.BEYOND);
        Due.is("loose: BEYOND, STATE", x.loose(0), Due.BEYOND);
    }
}
