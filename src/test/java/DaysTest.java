/** Promises 17 to 19, and what the Terms tell of A DAY and of DAYS by draws. */
public final class DaysTest {
    public static void main(String[] args) {
        fallWhereTheyAre();
        spentDoNotFall();
        sundays();
        sundayOfSeveralTheLeast();
        sundayAsAtTheBegin();
        wearMore();
        tooMuch();
        tooMuchOfTheDay();
        price();
        arrearsHeld();
        allDrift();
        dayIsOneMore();
        draws();
        drawsWithoutClouds();
        twoDrawsForOne();
        drawsBelowZero();
        days();
        daysBeyond();
        daysState();
        loose();
        looseBeyond();
        looseState();
        clear();
        Due.end();
    }

    private static void fallWhereTheyAre() {
        Due.term("A DAY: all CLOUDS by numbers that aren't SPENT FALL: on the ROOF OVER which they are;");
        RainShares x = Due.valley(10, 20, 5);
        x.cloud(0, 0);
        x.cloud(0, 0);
        x.cloud(62, 1);
        Due.is("got in all", x.days(1), 30);
        Due.is("two on one roof", x.ofRoof(0, 2), 24);
        Due.is("hail", x.ofRoof(1, 2), 6);
        Due.is("no cloud", x.ofRoof(2, 2), 0);
        Due.is("no clouds at all", Due.valley(10).days(7), 0);
        Due.is("no roofs", new RainShares().days(60), 0);
    }

    private static void spentDoNotFall() {
        Due.term("A DAY: all CLOUDS by numbers that aren't SPENT FALL:");
        RainShares x = Due.valley(10, 20);
        x.cloud(20, 0);
        x.lead(0, 1, 14);
        Due.is("the last rain", x.days(1), 12);
        Due.is("spent", x.ofCloud(0, 5), 1);
        Due.is("nothing", x.days(1), 12);
        Due.is("no wear more", x.ofCloud(0, 3), 15);
        Due.is("nothing on sunday", x.days(5), 12);
        x.become(0, 0);
        Due.is("as another kind it lasts on", x.days(1), 24);
    }

    private static void sundays() {
        Due.term("on Sundays (DAY leaves 6 by 7) on that with most ARREARS");
        RainShares x = Due.valley(50, 50, 50);
        x.cloud(0, 0);
        x.change(2, 1, 1);
        int got = 0;
        for (int day = 0; day < 15; day++) {
            x.lead(0, 0, 0);
            x.days(1);
            got += day % 7 == 6 ? 12 : 0;
            Due.is("roof 2 behind day " + day, x.ofRoof(2, 2), got);
        }
        Due.is("roof 0", x.ofRoof(0, 2), 13 * 12);
        x.lead(0, 0, 1);
        x.days(5);
        Due.is("saturday", x.count(2) % 7, 6);
        int over = x.ofCloud(0, 2);
        x.lead(0, 1, 0);
        x.days(1);
        Due.is("it drifts from where it was", x.ofCloud(0, 2), (over + 1) % 3);
    }

    private static RainShares sundayValley(int... arrears) {
        RainShares x = Due.onDay(6);
        for (int r = 0; r < arrears.length; r++) {
            x.roof(50);
            x.change(r, 1, arrears[r]);
        }
        x.cloud(0, arrears.length - 1);
        x.days(1);
        return x;
    }

    private static void sundayOfSeveralTheLeast() {
        Due.term("on that with most ARREARS (of several the least;");
        Due.is("none has arrears", sundayValley(0, 0, 0).ofRoof(0, 2), 12);
        Due.is("the first one", sundayValley(8, 7, 8).ofRoof(0, 2), 12);
        Due.is("the second one", sundayValley(7, 8, 8).ofRoof(1, 2), 12);
        Due.is("the last one", sundayValley(7, 8, 9).ofRoof(2, 2), 12);
        Due.is("all as many as may be", sundayValley(9999, 9999, 9999).ofRoof(0, 2), 12);
        Due.is("a roof alone", sundayValley(0).ofRoof(0, 2), 12);
    }

    private static void sundayAsAtTheBegin() {
        Due.term("as at the DAY'S begin): its GOT is so much more");
        RainShares x = Due.onDay(6);
        x.roof(0);
        x.roof(0);
        x.change(0, 1, 4);
        x.change(1, 1, 5);
        x.cloud(0, 0);
        x.cloud(0, 0);
        x.days(1);
        Due.is("both on the one with most", x.ofRoof(1, 2), 24);
        Due.is("its arrears are charged behind that", x.ofRoof(1, 1), 29);
        Due.is("none on the other", x.ofRoof(0, 2), 0);
    }

    private static void wearMore() {
        Due.term("WEAR of the CLOUD 1 more (99 at most).");
        RainShares x = Due.valley(10);
        x.cloud(49, 0);
        x.cloud(0, 0);
        x.lead(1, 1, 99);
        x.days(1);
        Due.is("1 more", x.ofCloud(0, 3), 1);
        x.lead(0, 1, 56);
        x.days(1);
        Due.is("the last but one", x.ofCloud(0, 3), 57);
        x.days(1);
        Due.is("the last", x.ofCloud(0, 3), 58);
        x.days(60);
        Due.is("no more, as it is spent", x.ofCloud(0, 3), 58);
        Due.is("99 at most", x.ofCloud(1, 3), 99);
        Due.write(x, 0, "0");
        x.lead(0, 1, 3);
        x.days(1);
        Due.is("for 0 drops, too", x.ofCloud(0, 3), 4);
    }

    private static void tooMuch() {
        Due.term("Then each ROOF by numbers on which more fell of this DAY than it has SHARES: its ARREARS are more "
            + "by what was too much,");
        int[] shares = {11, 12, 13, 0};
        int[] due = {1, 0, 0, 12};
        for (int i = 0; i < shares.length; i++) {
            RainShares x = Due.valley(shares[i]);
            x.cloud(0, 0);
            x.change(0, 1, 100);
            x.days(1);
            Due.is("arrears with shares " + shares[i], x.ofRoof(0, 1), 100 + due[i]);
        }
        RainShares y = Due.valley(20, 3);
        y.cloud(0, 0);
        y.cloud(0, 0);
        y.cloud(0, 1);
        y.days(1);
        Due.is("two together", y.ofRoof(0, 1), 4);
        Due.is("each roof", y.ofRoof(1, 1), 9);
    }

    private static void tooMuchOfTheDay() {
        Due.term("more fell of this DAY than it has SHARES");
        RainShares x = Due.valley(12);
        x.cloud(0, 0);
        x.days(20);
        Due.is("got of all days does not count", x.ofRoof(0, 1), 0);
        Due.is("got", x.ofRoof(0, 2), 240);
    }

    private static void price() {
        Due.term("times what the other TEXT gives");
        RainShares x = Due.valley(10, 3);
        x.cloud(0, 0);
        x.change(0, 2, 2);
        Due.write(x, 1, "s/5+r+d");
        x.days(1);
        Due.is("price", x.ofRoof(0, 1), 8);
        x.days(1);
        Due.is("price of another roof, of the day that passes", x.ofRoof(1, 1), 9);
        Due.write(x, 1, "0");
        x.days(1);
        Due.is("price 0", x.ofRoof(0, 1), 8);
        Due.write(x, 1, "99");
        x.lead(0, 0, 0);
        x.days(1);
        Due.is("price 9 at most", x.ofRoof(0, 1), 8 + 18);
    }

    private static void arrearsHeld() {
        Due.term("(held at 9999)");
        int[] before = {9986, 9987, 9988, 9999};
        int[] due = {9998, 9999, 9999, 9999};
        for (int i = 0; i < before.length; i++) {
            RainShares x = Due.valley(0);
            x.cloud(0, 0);
            x.change(0, 1, before[i]);
            x.days(1);
            Due.is("behind " + before[i], x.ofRoof(0, 1), due[i]);
        }
        RainShares y = Due.valley(0);
        for (int c = 0; c < 5; c++) {
            y.cloud(49, 0);
        }
        Due.write(y, 0, "99");
        Due.write(y, 1, "9");
        y.days(2);
        Due.is("two days", y.ofRoof(0, 1), 2 * 495 * 9);
        y.days(1);
        Due.is("three days", y.ofRoof(0, 1), 9999);
    }

    private static void allDrift() {
        Due.term("Then all CLOUDS (SPENT ones, too) DRIFT.");
        RainShares x = Due.valley(10, 20, 30);
        x.cloud(0, 2);
        x.cloud(0, 1);
        x.cloud(50, 1);
        x.lead(1, 1, 99);
        x.days(1);
        Due.is("from the last roof", x.ofCloud(0, 2), 0);
        Due.is("a spent one", x.ofCloud(1, 2), 2);
        Due.is("a blind one, by the day that passes", x.ofCloud(2, 2), 0);
        x.days(1);
        Due.is("a blind one, by the day that passes", x.ofCloud(2, 2), 1);
    }

    private static void dayIsOneMore() {
        Due.term("DAY (0 to 9999; 0 at first) is 1 more.");
        RainShares x = new RainShares();
        Due.is("at first", x.count(2), 0);
        x.days(1);
        Due.is("1", x.count(2), 1);
        x.loose(1);
        Due.is("2", x.count(2), 2);
        Due.is("9999", Due.onDay(9999).count(2), 9999);
    }

    private static void draws() {
        Due.term("DAYS by draws: z is told (1 at first); each makes it z * 1103515245 + 12345 (an int), and gives "
            + "z >>> 8.");
        RainShares x = Due.valley(10);
        x.cloud(0, 0);
        Due.is("at first", x.count(10), 1);
        x.loose(1);
        Due.is("two draws", x.count(10), 1103527590 * 1103515245 + 12345);
        x.seed(0);
        x.loose(1);
        Due.is("from 0", x.count(10), 12345 * 1103515245 + 12345);
    }

    private static void drawsWithoutClouds() {
        Due.term("Each: if there are CLOUDS, two draws:");
        RainShares x = Due.valley(10, 20, 30);
        Due.is("without clouds", x.loose(40), 0);
        Due.is("no draws", x.count(10), 1);
        Due.is("yet days", x.count(2), 40);
        Due.is("without roofs", new RainShares().loose(1), 0);
        x.cloud(0, 0);
        x.lead(0, 1, 99);
        x.loose(1);
        Due.holds("a spent one is drawn for, too", x.count(10) != 1);
    }

    private static void twoDrawsForOne() {
        Due.term("two draws: the CLOUD that is the first one's rest by how many there are comes OVER the ROOF that is "
            + "the second one's rest by how many there are; then a DAY.");
        RainShares x = Due.valley(0, 0, 0);
        x.cloud(0, 2);
        x.seed(5);
        int z = (5 * 1103515245 + 12345) * 1103515245 + 12345;
        x.loose(1);
        Due.is("two draws for one cloud", x.count(10), z);
        Due.is("it came over", x.ofRoof((z >>> 8) % 3, 2), 12);
        Due.is("and drifted", x.ofCloud(0, 2), ((z >>> 8) + 1) % 3);
    }

    /** Draws of a z below 0, from each of many seeds, worked out once more here. */
    private static void drawsBelowZero() {
        Due.term("(an int), and gives z >>> 8.");
        int[] seeds = {77, -1, Integer.MIN_VALUE, Integer.MAX_VALUE, 123456789, -987654321};
        for (int seed : seeds) {
            RainShares x = Due.valley(10, 20, 30);
            x.cloud(1, 0);
            x.cloud(2, 0);
            x.seed(seed);
            int z = seed;
            int[] over = {0, 0};
            int[] got = {0, 0, 0};
            for (int d = 0; d < 5; d++) {
                z = z * 1103515245 + 12345;
                int cloud = (z >>> 8) % 2;
                z = z * 1103515245 + 12345;
                over[cloud] = (z >>> 8) % 3;
                for (int c = 0; c < 2; c++) {
                    got[over[c]] += 12;
                    over[c] = (over[c] + 1) % 3;
                }
            }
            Due.is("got in all", x.loose(5), 120);
            for (int r = 0; r < 3; r++) {
                Due.is("got, seed " + seed, x.ofRoof(r, 2), got[r]);
            }
            Due.is("z, seed " + seed, x.count(10), z);
            Due.is("over, seed " + seed, x.ofCloud(0, 2), over[0]);
            Due.is("over, seed " + seed, x.ofCloud(1, 2), over[1]);
        }
    }

    private static void days() {
        Due.promise(17, "n (1 to 60) DAYS: GOT of all ROOFS together.");
        RainShares x = Due.valley(10, 20, 5);
        x.cloud(0, 0);
        Due.is("1", x.days(1), 12);
        Due.is("got in all, of the days ahead, too", x.days(2), 36);
        Due.is("of each", x.ofRoof(2, 2), 12);
        Due.is("60", x.days(60), 240);
        Due.is("day", x.count(2), 63);
        RainShares y = Due.valley(10, 20, 30);
        RainShares z = Due.valley(10, 20, 30);
        y.cloud(47, 0);
        z.cloud(47, 0);
        y.days(60);
        for (int i = 0; i < 60; i++) {
            z.days(1);
        }
        Due.holds("60 at once are 60 one by one", Seen.all(y).equals(Seen.all(z)));
    }

    private static void daysBeyond() {
        Due.promise(17, "BEYOND.");
        RainShares x = Due.valley(10);
        Due.is("0", x.days(0), Due.BEYOND);
        Due.is("-1", x.days(-1), Due.BEYOND);
        Due.is("61", x.days(61), Due.BEYOND);
        Due.is("no day passed", x.count(2), 0);
    }

    private static void daysState() {
        Due.promise(17, "STATE: DAY would be above 9999.");
        RainShares x = Due.onDay(9960);
        Due.is("up to 10000", x.days(40), Due.STATE);
        Due.is("60", x.days(60), Due.STATE);
        Due.is("day", x.count(2), 9960);
        Due.is("up to 9999", x.days(39), 0);
        Due.is("one more", x.days(1), Due.STATE);
        Due.is("day", x.count(2), 9999);
    }

    private static void loose() {
        Due.promise(18, "n (1 to 40) DAYS by draws: likewise.");
        RainShares x = Due.valley(10, 20, 30);
        x.cloud(40, 0);
        x.cloud(40, 1);
        Due.is("1", x.loose(1), 24);
        Due.is("40", x.loose(40), x.ofRoof(0, 2) + x.ofRoof(1, 2) + x.ofRoof(2, 2));
        Due.is("day", x.count(2), 41);
        RainShares y = Due.valley(10, 20, 30);
        y.cloud(40, 0);
        y.cloud(40, 1);
        for (int i = 0; i < 41; i++) {
            y.loose(1);
        }
        Due.holds("40 at once are 40 one by one", Seen.all(x).equals(Seen.all(y)));
    }

    private static void looseBeyond() {
        Due.promise(18, "BEYOND.");
        RainShares x = Due.valley(10);
        x.cloud(0, 0);
        Due.is("0", x.loose(0), Due.BEYOND);
        Due.is("-1", x.loose(-1), Due.BEYOND);
        Due.is("41", x.loose(41), Due.BEYOND);
        Due.is("no day passed", x.count(2), 0);
        Due.is("nothing drawn", x.count(10), 1);
    }

    private static void looseState() {
        Due.promise(18, "STATE: DAY would be above 9999.");
        RainShares x = Due.onDay(9960);
        x.roof(10);
        x.cloud(0, 0);
        Due.is("up to 10000", x.loose(40), Due.STATE);
        Due.is("nothing drawn", x.count(10), 1);
        Due.is("day", x.count(2), 9960);
        Due.is("up to 9999", x.loose(39), 240);
        Due.is("one more", x.loose(1), Due.STATE);
        Due.is("day", x.count(2), 9999);
    }

    private static void clear() {
        Due.promise(19, "All is cleared as CLEARS: how much.");
        RainShares x = Due.valley(1, 2, 3, 4);
        Due.is("nothing", x.clear(), 0);
        x.owe(0, 1, 10);
        x.owe(1, 0, 4);
        x.owe(1, 2, 7);
        x.owe(2, 0, 9);
        x.owe(0, 3, 5);
        x.owe(3, 1, 5);
        Due.is("how much", x.clear(), 26);
        Due.is("less", x.owed(0, 1), 0);
        Due.is("less", x.owed(1, 0), 0);
        Due.is("less", x.owed(1, 2), 1);
        Due.is("less", x.owed(2, 0), 3);
        Due.is("no ring", x.owed(0, 3), 5);
        Due.is("no ring", x.owed(3, 1), 5);
        Due.is("nothing more", x.clear(), 0);
        Due.is("no roofs", new RainShares().clear(), 0);
    }
}
