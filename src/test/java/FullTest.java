/** All promises in a valley with as much of all as there may be. */
public final class FullTest {
    public static void main(String[] args) {
        RainShares x = Due.valley(10, 20, 30, 40, 50, 60);
        int[] kinds = {9, 19, 29, 39, 49};
        for (int i = 0; i < 5; i++) {
            x.cloud(kinds[i], 5);
        }
        for (int a = 0; a < 6; a++) {
            for (int b = 0; b < 6; b++) {
                if (a != b) {
                    x.owe(a, b, a < b ? 100 : 99);
                }
            }
        }
        thoughts(x);
        acts(x);
        Due.end();
    }

    private static void thoughts(RainShares x) {
        Due.is("3: over", x.ofRoof(5, 4), 31);
        Due.is("3: owed", x.ofRoof(5, 5), 5 * 99);
        Due.is("24: pairs alone", x.clears(), 15 * 2 * 99);
        Due.is("20: got", x.then(1, 5, 1), 60);
        Due.is("21: dry", x.drought(5, 1), 0);
        Due.is("22: never", x.when(5, 9999), Due.NONE);
        Due.is("23: all", x.sellers(210, 0), 63);
        Due.is("23: all", x.sellers(210, 1), 210);
        Due.is("23: too much", x.sellers(211, 0), Due.NONE);
        Due.is("25: patches", x.patches(20), 15);
        Due.is("26: trades", x.trades(), 0);
        x.change(5, 2, 0);
        x.change(0, 2, 1);
        Due.is("26: trades", x.trades(), 5);
        x.change(0, 2, 0);
        x.change(4, 2, 1);
        Due.is("26: trades", x.trades(), 1);
        x.sheet(0, 32, 6);
        x.put(0, 5, 60);
        Due.is("27: all of them", x.fell(0, 0), 1);
        Due.is("27: all of them", x.fell(0, 1), 31);
        x.put(0, 5, 48);
        Due.is("27: all but one", x.fell(0, 0), 5);
        Due.is("27: all but one", x.fell(0, 1), 15);
        Due.is("28: gains", x.gains(5, 1, 1), 0);
        x.change(5, 0, 50);
        Due.is("28: gains", x.gains(5, 20, 1), 10);
        Due.is("41: most arrears", x.count(6), 0);
        x.change(5, 1, 1);
        Due.is("41: most arrears", x.count(6), 5);
        Due.is("36: judged", x.judge(0), 5);
        x.put(0, 5, 1);
        Due.is("36: judged", x.judge(0), -1);
        x.sheet(1, 32, 40);
        x.move(0, 0, 1, 0, 6);
        Due.is("36: too many", x.judge(1), 6);
        Due.is("35: up to the last roof", x.shares(1), 6);
    }

    private static void acts(RainShares x) {
        Due.is("19: cleared", x.clear(), 15 * 2 * 99);
        Due.is("19: left", x.ofRoof(0, 5), 5);
        // Three odd DAYS for THUNDER. Only ROOF 5 has a SHARE, for LEASED on DAY 0: on Sunday ROOFS 1, 3, 5
        // have ARREARS of 60 each, and all falls on ROOF 1.
        Due.is("17: a week", x.days(7), 7 * 48 + 3 * 9 + 1);
        Due.is("17: arrears of sunday", x.ofRoof(1, 1), 60 + 48);
        Due.is("17: arrears of the others", x.ofRoof(3, 1) + x.ofRoof(5, 1), 120);
        Due.is("18: to the end", x.count(5), 0);
        x.loose(40);
        Due.is("41: not the wandering one", x.count(5), 4);
        x.days(60);
        Due.is("41: all spent", x.count(5), 5);
        Due.is("16: the longest text", Due.write(x, 0, "(w+1)*2" + "+d-d+m-m+0".repeat(4)), 1);
        Due.is("16: its worth", x.law(0, 4, 5, 6), 10);
        for (int i = 0; i < 20; i++) {
            x.tell(x.count(3));
        }
        Due.is("40: 20 that wait", x.check(), 0);
        x.image();
        x.days(60);
        Due.is("38: day", x.restore(), 107);
    }
}
