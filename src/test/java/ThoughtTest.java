/** Promises 20 to 28. */
public final class ThoughtTest {
    public static void main(String[] args) {
        then();
        drought();
        when();
        sellers();
        clears();
        patches();
        trades();
        fell();
        fellOnSunday();
        gains();
        Due.end();
    }

    private static void then() {
        RainShares x = Due.valley(5, 20);
        x.cloud(0, 0);
        Due.is("20: behind 0", x.then(0, 0, 1), 0);
        Due.is("20: got", x.then(1, 0, 1), 12);
        Due.is("20: arrears", x.then(1, 0, 0), 7);
        Due.is("20: got of the other", x.then(2, 1, 1), 12);
        Due.is("20: 60", x.then(60, 0, 1) + x.then(60, 1, 1), 240);
        Due.is("20: only thought", x.count(2), 0);
        Due.is("20: only thought", x.count(3), 0);
        Due.is("20: only thought", x.ofCloud(0, 3), 0);
        Due.is("20: n", x.then(61, 0, 0), Due.BEYOND);
        Due.is("20: n", x.then(-1, 0, 0), Due.BEYOND);
        Due.is("20: roof", x.then(1, 2, 0), Due.BEYOND);
        Due.is("20: what", x.then(1, 0, 2), Due.BEYOND);
        Due.is("20: what", x.then(1, 0, -1), Due.BEYOND);
    }

    private static void drought() {
        RainShares x = Due.valley(50, 50, 50);
        x.cloud(0, 0);
        Due.is("21: dry", x.drought(0, 3), 2);
        Due.is("21: dry", x.drought(1, 1), 1);
        Due.is("21: dry", x.drought(0, 1), 0);
        Due.is("21: when spent", x.drought(1, 60), 40);
        Due.write(x, 0, "0");
        Due.is("21: 0 drops are nothing", x.drought(0, 7), 7);
        Due.is("21: only thought", x.count(2), 0);
        Due.is("21: n", x.drought(0, 0), Due.BEYOND);
        Due.is("21: n", x.drought(0, 61), Due.BEYOND);
        Due.is("21: roof", x.drought(3, 1), Due.BEYOND);
    }

    private static void when() {
        RainShares x = Due.valley(5, 50);
        x.cloud(0, 0);
        Due.is("22: now", x.when(0, 0), 0);
        Due.is("22: first", x.when(0, 1), 1);
        Due.is("22: 7", x.when(0, 7), 1);
        Due.is("22: 8", x.when(0, 8), 3);
        Due.is("22: not by 60", x.when(1, 1), Due.NONE);
        Due.is("22: v", x.when(0, 10000), Due.BEYOND);
        Due.is("22: v", x.when(0, -1), Due.BEYOND);
        Due.is("22: roof", x.when(2, 1), Due.BEYOND);
        Due.is("22: only thought", x.count(2), 0);
        RainShares y = Due.valley(0);
        y.cloud(49, 0);
        Due.write(y, 0, "(d=60)*9");
        Due.is("22: the 61st day is too late", y.when(0, 1), Due.NONE);
        Due.write(y, 0, "(d=57)*9");
        Due.is("22: by 60", y.when(0, 1), 58);
        Due.write(y, 0, "(d=59)*9");
        Due.is("22: spent by then", y.when(0, 1), Due.NONE);
        y.days(1);
        y.lead(0, 1, 0);
        y.become(0, 49);
        Due.write(y, 0, "(d=58)*9");
        Due.is("22: a day later", y.when(0, 1), 58);
    }

    private static void sellers() {
        RainShares x = Due.valley(10, 20, 5, 20, 0);
        Due.is("23: 0", x.sellers(0, 0), 0);
        Due.is("23: 0", x.sellers(0, 1), 0);
        Due.is("23: the least", x.sellers(20, 0), 2);
        x.change(1, 1, 7);
        Due.is("23: the least arrears", x.sellers(20, 0), 8);
        Due.is("23: two", x.sellers(21, 0), 9);
        Due.is("23: their shares", x.sellers(21, 1), 30);
        x.change(2, 1, 1);
        x.change(0, 1, 2);
        Due.is("23: fewest arrears of two", x.sellers(21, 0), 12);
        Due.is("23: all but the one with none", x.sellers(55, 0), 15);
        Due.is("23: all have fewer", x.sellers(56, 0), Due.NONE);
        Due.is("23: v", x.sellers(1000, 0), Due.BEYOND);
        Due.is("23: v", x.sellers(-1, 0), Due.BEYOND);
        Due.is("23: what", x.sellers(0, 2), Due.BEYOND);
        Due.is("23: no roofs", new RainShares().sellers(1, 0), Due.NONE);
    }

    private static void clears() {
        RainShares x = Due.valley(1, 2, 3, 4);
        Due.is("24: nothing", x.clears(), 0);
        x.owe(1, 2, 5);
        x.owe(2, 3, 6);
        x.owe(3, 1, 7);
        Due.is("24: a ring", x.clears(), 15);
        x.owe(1, 3, 4);
        Due.is("24: a pair, then what is left of the ring", x.clears(), 8 + 9);
        Due.is("24: only thought", x.owed(1, 2), 5);
    }

    private static void patches() {
        RainShares x = Due.valley(10);
        Due.is("25: no clouds", x.patches(0), Due.NONE);
        Due.is("25: BEYOND ahead of NONE", x.patches(21), Due.BEYOND);
        x.cloud(0, 0);
        Due.is("25: 0", x.patches(0), 20);
        x.lead(0, 1, 18);
        Due.is("25: 1", x.patches(1), 7);
        Due.is("25: 0 at least", x.patches(20), 20);
        x.lead(0, 1, 40);
        Due.is("25: 0 days at least", x.patches(4), 0);
        Due.is("25: 5", x.patches(5), 5);
        x.cloud(20, 0);
        x.lead(0, 1, 12);
        x.lead(1, 1, 10);
        Due.is("25: both", x.patches(0), 5);
        Due.is("25: first the one", x.patches(1), 8);
        Due.is("25: then the other", x.patches(2), 10);
        Due.is("25: only thought", x.ofCloud(0, 3), 12);
        Due.is("25: n", x.patches(-1), Due.BEYOND);
    }

    private static void trades() {
        RainShares x = Due.valley(10, 5, 5, 20);
        Due.is("26: all of a rank", x.trades(), 0);
        x.change(1, 2, 3);
        Due.is("26: fewer than two others", x.trades(), 2);
        x.change(2, 2, 1);
        Due.is("26: as many do not trade", x.trades(), 4);
        x.change(0, 2, 2);
        Due.is("26: the first one", x.trades(), 4);
        x.change(0, 2, 0);
        x.change(3, 2, 99);
        Due.is("26: the greater rank with more shares", x.trades(), 2);
        Due.is("26: none", new RainShares().trades(), 0);
    }

    private static void fell() {
        RainShares x = Due.valley(50, 7);
        x.cloud(0, 0);
        x.cloud(0, 0);
        x.cloud(30, 1);
        x.cloud(0, 0);
        x.lead(3, 1, 20);
        Due.is("27: missing", x.fell(0, 0), Due.NONE);
        x.sheet(0, 16, 3);
        Due.is("27: too many numbers", x.fell(0, 0), Due.NONE);
        x.sheet(0, 16, 1);
        Due.is("27: too few numbers", x.fell(0, 0), Due.NONE);
        x.sheet(0, 16, 2);
        Due.is("27: the empty set", x.fell(0, 0), 1);
        Due.is("27: the empty set", x.fell(0, 1), 0);
        x.put(0, 0, 12);
        Due.is("27: not the spent one", x.fell(0, 0), 2);
        Due.is("27: the least", x.fell(0, 1), 1);
        x.put(0, 1, 7);
        Due.is("27: with the leased one", x.fell(0, 1), 5);
        x.put(0, 0, 24);
        Due.is("27: all", x.fell(0, 1), 7);
        x.put(0, 0, 36);
        Due.is("27: none", x.fell(0, 0), 0);
        Due.is("27: none", x.fell(0, 1), Due.NONE);
        Due.is("27: what", x.fell(0, 2), Due.BEYOND);
        Due.is("27: sheet", x.fell(4, 0), Due.BEYOND);
        Due.is("27: sheet", x.fell(-1, 0), Due.BEYOND);
        Due.write(x, 0, "0");
        x.sheet(0, 32, 2);
        Due.is("27: clouds that give 0", x.fell(0, 0), 8);
        Due.is("27: the least of them", x.fell(0, 1), 0);
        x.lead(0, 1, 20);
        Due.is("27: the first one spent", x.fell(0, 0), 4);
        RainShares y = new RainShares();
        y.sheet(1, 8, 0);
        Due.is("27: no roofs, no numbers", y.fell(1, 0), 1);
        Due.is("27: no roofs, no numbers", y.fell(1, 1), 0);
    }

    private static void fellOnSunday() {
        RainShares x = Due.valley(50, 7);
        x.days(6);
        x.cloud(0, 0);
        x.cloud(30, 0);
        x.change(1, 1, 3);
        x.sheet(2, 32, 2);
        x.put(2, 1, 19);
        Due.is("27: sunday", x.fell(2, 1), 3);
        x.put(2, 1, 0);
        x.put(2, 0, 12);
        Due.is("27: sunday", x.fell(2, 0), 0);
        Due.is("27: only thought", x.count(3), 0);
    }

    private static void gains() {
        RainShares x = Due.valley(5, 50);
        x.cloud(0, 0);
        Due.is("28: no days", x.gains(0, 5, 0), 0);
        Due.is("28: five", x.gains(0, 5, 1), 5);
        Due.is("28: all", x.gains(0, 20, 1), 7);
        Due.is("28: nothing owed", x.gains(1, 20, 60), 0);
        Due.is("28: v", x.gains(0, 0, 1), Due.BEYOND);
        Due.is("28: v", x.gains(0, 21, 1), Due.BEYOND);
        Due.is("28: n", x.gains(0, 1, 61), Due.BEYOND);
        Due.is("28: n", x.gains(0, 1, -1), Due.BEYOND);
        Due.is("28: roof", x.gains(2, 1, 1), Due.BEYOND);
        Due.is("28: only thought", x.ofRoof(0, 0), 5);
        RainShares y = Due.valley(95, 0);
        Due.write(y, 1, "s/20");
        y.cloud(0, 0);
        y.cloud(0, 0);
        Due.write(y, 0, "51");
        Due.is("28: no more than 99", y.gains(0, 20, 1), 7 * 4 - 3 * 4);
        y.change(0, 0, 39);
        Due.is("28: below 0", y.gains(0, 1, 1), 63 - 62 * 2);
    }
}
