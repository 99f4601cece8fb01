/** Promises 20 to 28, and what the Terms tell of all that is only thought. */
public final class ThoughtTest {
    public static void main(String[] args) {
        onlyThought();
        beyondTheLastDay();
        behind();
        droughtIsTheLongestRow();
        nothingFalls();
        whenIsFirst();
        whenWithin();
        fewestSellers();
        sellersWithLeastArrears();
        sellersOfTheseTheLeast();
        clearsPairs();
        clearsRings();
        clearsInOrder();
        clearsInAll();
        patchesMakeFiveLess();
        patchesComeToTheFewestDays();
        patchesWithin();
        tradesOfRanksAndShares();
        fellAsManyNumbers();
        fellNoneSpent();
        fellOnThisDay();
        fellAlone();
        gainsAreLess();
        gainsNinetyNineAtMost();
        then();
        thenBeyond();
        drought();
        droughtBeyond();
        when();
        whenBeyond();
        whenNone();
        sellers();
        sellersBeyond();
        sellersNone();
        clears();
        patches();
        patchesBeyond();
        patchesNone();
        trades();
        fell();
        fellBeyond();
        fellNone();
        gains();
        gainsBeyond();
        Due.end();
    }

    private static RainShares oneCloud(int... shares) {
        RainShares x = Due.valley(shares);
        x.cloud(0, 0);
        return x;
    }

    private static void onlyThought() {
        Due.term("(All this is only thought, DAY beyond 9999, too.)");
        RainShares x = ErrorsTest.rich();
        x.then(60, 0, 0);
        x.drought(1, 60);
        x.when(2, 9999);
        x.sellers(50, 0);
        x.clears();
        x.patches(20);
        x.trades();
        x.fell(0, 0);
        x.gains(0, 20, 60);
        Due.holds("nothing changed", Seen.all(x).equals(Seen.all(ErrorsTest.rich())));
    }

    private static void beyondTheLastDay() {
        Due.term("DAY beyond 9999, too.");
        RainShares x = Due.onDay(9999);
        x.roof(50);
        x.roof(50);
        x.change(1, 1, 1);
        x.cloud(30, 0);
        Due.is("two days", x.then(2, 0, 1), 24);
        Due.is("day 10002 is a sunday", x.then(4, 1, 1), 12);
        Due.is("but for that one", x.then(5, 0, 1), 48);
        Due.is("drought", x.drought(1, 4), 3);
        Due.write(x, 0, "(d=9999+3)*60");
        Due.is("the text's day", x.then(60, 1, 1), 50);
        x.change(1, 0, 49);
        x.become(0, 0);
        Due.write(x, 0, "(d>9999)*60");
        Due.is("when", x.when(0, 1), 3);
        Due.is("gains", x.gains(0, 4, 3), 4);
        x.tell(0);
        x.tell(60);
        Due.is("check", x.check(), 0);
        Due.is("day", x.count(2), 9999);
        Due.is("no day passes", x.days(1), Due.STATE);
    }

    /** No CLOUD rains on more than 58 DAYS: the last but two of 60 are the last that can be told apart. */
    private static void behind() {
        Due.term("BEHIND n DAYS (0 to 60).");
        RainShares x = oneCloud(5, 20);
        Due.is("0", x.then(0, 0, 1), 0);
        Due.is("1", x.then(1, 0, 1), 12);
        Due.is("60", x.then(60, 0, 1) + x.then(60, 1, 1), 240);
        RainShares y = Due.valley(0);
        y.cloud(49, 0);
        Due.write(y, 0, "(d=57)*9");
        Due.is("57", y.then(57, 0, 1), 0);
        Due.is("58", y.then(58, 0, 1), 4);
        Due.is("60", y.then(60, 0, 1), 4);
        y.days(1);
        Due.is("56, a day later", y.then(56, 0, 1), 0);
        Due.is("57, a day later", y.then(57, 0, 1), 4);
    }

    private static void droughtIsTheLongestRow() {
        Due.term("DROUGHT of a ROOF: the longest row of DAYS, of the next n (1 to 60), in which nothing falls on it.");
        RainShares x = oneCloud(50, 50, 50);
        Due.is("none", x.drought(0, 1), 0);
        Due.is("the one day", x.drought(1, 1), 1);
        Due.is("behind the first day", x.drought(0, 3), 2);
        Due.is("ahead of the third day", x.drought(2, 3), 2);
        Due.is("cut off by n", x.drought(2, 2), 2);
        Due.write(x, 0, "(d=5)*9");
        x.become(0, 30);
        Due.is("the first row is the longest", x.drought(0, 10), 5);
        Due.is("the last row is the longest", x.drought(0, 12), 6);
        Due.is("60 days", x.drought(1, 60), 60);
        Due.write(x, 0, "99");
        Due.is("of 60, behind the last rain", x.drought(0, 60), 40);
        Due.is("no clouds", Due.valley(1).drought(0, 60), 60);
    }

    private static void nothingFalls() {
        Due.term("in which nothing falls on it.");
        RainShares x = oneCloud(50, 50);
        Due.write(x, 0, "0");
        Due.is("0 drops are nothing", x.drought(0, 7), 7);
        Due.write(x, 0, "1");
        Due.is("one drop", x.drought(0, 2), 1);
        RainShares full = oneCloud(50);
        full.become(0, 30);
        Due.is("each day", full.drought(0, 20), 0);
        Due.is("got at its most does not matter", fullOfDrops().drought(0, 3), 0);
    }

    /** A ROOF whose GOT is held at its most. */
    private static RainShares fullOfDrops() {
        RainShares x = Due.valley(99);
        for (int c = 0; c < 5; c++) {
            x.cloud(49, 0);
        }
        Due.write(x, 0, "99");
        while (x.count(3) < 99999) {
            for (int c = 0; c < 5; c++) {
                x.lead(c, 1, 0);
            }
            x.days(58);
        }
        for (int c = 0; c < 5; c++) {
            x.lead(c, 1, 0);
        }
        return x;
    }

    private static void whenIsFirst() {
        Due.term("WHEN: behind how many DAYS (0 to 60) ARREARS of a ROOF are v or more first.");
        RainShares x = oneCloud(5, 50);
        Due.is("0 arrears, now", x.when(0, 0), 0);
        Due.is("1", x.when(0, 1), 1);
        Due.is("just as many", x.when(0, 7), 1);
        Due.is("one more", x.when(0, 8), 3);
        x.change(0, 1, 3);
        Due.is("as many now", x.when(0, 3), 0);
        Due.is("one more than now", x.when(0, 4), 1);
        x.change(0, 1, 9999);
        Due.is("9999 now", x.when(0, 9999), 0);
        x.change(0, 1, 9998);
        Due.is("9999 held", x.when(0, 9999), 1);
    }

    /** As no CLOUD rains on more than 58 DAYS, what is not by then is not by 60. */
    private static void whenWithin() {
        Due.term("WHEN: behind how many DAYS (0 to 60)");
        RainShares x = Due.valley(0);
        x.cloud(49, 0);
        Due.write(x, 0, "(d=0)*9");
        Due.is("the first day's rain", x.when(0, 1), 1);
        Due.write(x, 0, "(d=57)*9");
        Due.is("the last day's rain", x.when(0, 1), 58);
        Due.write(x, 0, "(d=58)*9");
        Due.is("it is spent by then", x.when(0, 1), Due.NONE);
        x.days(1);
        x.lead(0, 1, 0);
        Due.is("a day later it isn't", x.when(0, 1), 58);
        x.change(0, 1, 1);
        Due.is("now", x.when(0, 1), 0);
    }

    private static void fewestSellers() {
        Due.term("SELLERS: the fewest ROOFS whose SHARES together are v or more;");
        RainShares x = Due.valley(10, 20, 5, 20, 0);
        Due.is("0: none of them", x.sellers(0, 0), 0);
        Due.is("1: one of them", x.sellers(1, 0), 1);
        Due.is("just as many", x.sellers(10, 0), 1);
        Due.is("one more", x.sellers(11, 0), 2);
        Due.is("two", x.sellers(21, 0), 3);
        Due.is("three", x.sellers(41, 0), 11);
        Due.is("all but the one with none", x.sellers(55, 0), 15);
        x.change(1, 1, 9999);
        x.change(3, 1, 9999);
        Due.is("fewest is ahead of least arrears", x.sellers(20, 0), 2);
        Due.is("all six", Due.valley(1, 1, 1, 1, 1, 1).sellers(6, 0), 63);
    }

    private static void sellersWithLeastArrears() {
        Due.term("of several sets that with the least ARREARS together");
        RainShares x = Due.valley(10, 20, 5, 20, 0);
        x.change(1, 1, 7);
        Due.is("the one with fewer", x.sellers(20, 0), 8);
        Due.is("two", x.sellers(21, 0), 9);
        x.change(2, 1, 1);
        x.change(0, 1, 2);
        Due.is("two, by what they have together", x.sellers(21, 0), 12);
    }

    private static void sellersOfTheseTheLeast() {
        Due.term("of these the least.");
        RainShares x = Due.valley(10, 10, 10);
        Due.is("one", x.sellers(10, 0), 1);
        Due.is("two", x.sellers(20, 0), 3);
        x.change(0, 1, 5);
        Due.is("of the other ones", x.sellers(10, 0), 2);
        x.change(1, 1, 5);
        x.change(2, 1, 5);
        Due.is("all with as many", x.sellers(11, 0), 3);
    }

    private static void clearsPairs() {
        Due.term("CLEARS: first each two ROOFS a < b by a, then b: what both have OWED to one another is less by the "
            + "lesser of the two.");
        RainShares x = Due.valley(1, 2, 3, 4, 5, 6);
        for (int a = 0; a < 6; a++) {
            for (int b = 0; b < 6; b++) {
                if (a != b) {
                    x.owe(a, b, a < b ? 999 : 998);
                }
            }
        }
        Due.is("15 pairs", x.clear(), 15 * 2 * 998);
        Due.is("what is left", x.owed(0, 5), 1);
        Due.is("what is left", x.owed(5, 0), 0);
        RainShares y = Due.valley(1, 2);
        y.owe(1, 0, 7);
        Due.is("0 is the lesser", y.clear(), 0);
        Due.is("it stays", y.owed(1, 0), 7);
        y.owe(0, 1, 7);
        Due.is("both as much", y.clear(), 14);
        Due.is("nothing left", y.owed(1, 0) + y.owed(0, 1), 0);
    }

    private static void ring(RainShares x, int v, int... roofs) {
        for (int i = 0; i < roofs.length; i++) {
            x.owe(roofs[i], roofs[(i + 1) % roofs.length], v + i);
        }
    }

    private static void clearsRings() {
        Due.term("Then each ring a, b, c (a the least of them; by a, then b, then c), a having OWED to b, b to c, "
            + "c to a: all three are less by the least of them.");
        int[][] rings = {{0, 1, 2}, {0, 2, 1}, {1, 2, 3}, {1, 3, 2}, {3, 4, 5}, {3, 5, 4}, {0, 5, 1}, {2, 5, 4}};
        for (int[] r : rings) {
            for (int from = 0; from < 3; from++) {
                RainShares x = Due.valley(1, 2, 3, 4, 5, 6);
                ring(x, 7, r[from], r[(from + 1) % 3], r[(from + 2) % 3]);
                Due.is("a ring", x.clear(), 21);
                Due.is("the least", x.owed(r[from], r[(from + 1) % 3]), 0);
                Due.is("1 is left", x.owed(r[(from + 1) % 3], r[(from + 2) % 3]), 1);
                Due.is("2 are left", x.owed(r[(from + 2) % 3], r[from]), 2);
            }
        }
        RainShares y = Due.valley(1, 2, 3, 4);
        ring(y, 7, 0, 1, 2, 3);
        Due.is("four are no ring", y.clear(), 0);
        y.owe(1, 3, 5);
        y.owe(3, 1, 3);
        Due.is("pairs first, then what is left of the ring", y.clear(), 6 + 6);
    }

    /** Two rings share what one has OWED to another: the first one takes it. */
    private static void clearsInOrder() {
        Due.term("by a, then b, then c)");
        firstTakesIt(new int[] {0, 1, 2}, new int[] {0, 1, 3}, 0, 1);
        firstTakesIt(new int[] {0, 1, 3}, new int[] {0, 2, 3}, 3, 0);
        firstTakesIt(new int[] {0, 1, 2}, new int[] {1, 2, 3}, 1, 2);
        firstTakesIt(new int[] {0, 2, 1}, new int[] {0, 3, 1}, 1, 0);
        firstTakesIt(new int[] {0, 2, 3}, new int[] {1, 2, 3}, 2, 3);
        firstTakesIt(new int[] {0, 3, 1}, new int[] {1, 2, 3}, 3, 1);
    }

    private static void firstTakesIt(int[] first, int[] second, int from, int to) {
        RainShares x = Due.valley(1, 2, 3, 4);
        for (int i = 0; i < 3; i++) {
            x.owe(first[i], first[(i + 1) % 3], 9);
            x.owe(second[i], second[(i + 1) % 3], 9);
        }
        x.owe(from, to, 5);
        Due.is("one ring alone", x.clear(), 15);
        for (int i = 0; i < 3; i++) {
            int a = first[i];
            int b = first[(i + 1) % 3];
            Due.is("of the first " + a + " " + b, x.owed(a, b), a == from && b == to ? 0 : 4);
            a = second[i];
            b = second[(i + 1) % 3];
            Due.is("of the second " + a + " " + b, x.owed(a, b), a == from && b == to ? 0 : 9);
        }
    }

    private static void clearsInAll() {
        Due.term("How much is less in all.");
        RainShares x = Due.valley(1, 2, 3, 4);
        Due.is("nothing", x.clears(), 0);
        ring(x, 5, 1, 2, 3);
        Due.is("a ring", x.clears(), 15);
        x.owe(1, 3, 4);
        Due.is("a pair, then what is left of the ring", x.clears(), 8 + 9);
    }

    private static void patchesMakeFiveLess() {
        Due.term("each making WEAR of a CLOUD 5 less (0 at least)");
        RainShares x = oneCloud(10);
        Due.is("wear 0", x.patches(1), 20);
        int[] wear = {4, 5, 6, 20, 21};
        int[] due = {20, 20, 19, 5, 4};
        for (int i = 0; i < wear.length; i++) {
            x.lead(0, 1, wear[i]);
            Due.is("wear " + wear[i], x.patches(1), due[i]);
        }
        x.lead(0, 1, 99);
        Due.is("just spent yet", x.patches(15), 0);
        Due.is("16", x.patches(16), 1);
        Due.is("20", x.patches(20), 20);
        x.lead(0, 1, 3);
        Due.is("20 of them", x.patches(20), 20);
    }

    private static void patchesComeToTheFewestDays() {
        Due.term("one by one each comes to the CLOUD with the fewest DAYS (LASTS less WEAR, 0 at least), of several the "
            + "least: the fewest DAYS that any has then.");
        RainShares x = oneCloud(10);
        x.cloud(20, 0);
        x.lead(0, 1, 12);
        x.lead(1, 1, 10);
        Due.is("the fewest", x.patches(0), 5);
        Due.is("first the one", x.patches(1), 8);
        Due.is("then the other", x.patches(2), 10);
        Due.is("then the one again", x.patches(3), 13);
        x.lead(0, 1, 30);
        x.lead(1, 1, 16);
        Due.is("both have none", x.patches(0), 0);
        Due.is("the least one first", x.patches(2), 0);
        Due.is("until it has some", x.patches(3), 0);
        Due.is("then the other", x.patches(4), 4);
        x.lead(1, 1, 0);
        x.lead(0, 1, 4);
        Due.is("one that is as new takes all", x.patches(20), 15);
    }

    private static void patchesWithin() {
        Due.term("PATCHES: n (0 to 20) patches");
        RainShares x = oneCloud(10);
        x.lead(0, 1, 99);
        for (int c = 1; c < 5; c++) {
            x.cloud(49, 0);
        }
        Due.is("0", x.patches(0), 0);
        Due.is("19", x.patches(19), 16);
        Due.is("20", x.patches(20), 20);
    }

    private static void tradesOfRanksAndShares() {
        Due.term("TRADES: pairs of ROOFS of which the one with the greater RANK has fewer SHARES.");
        int[][] rows = {{0, 10, 0, 20, 0}, {1, 10, 0, 20, 1}, {0, 20, 1, 10, 1}, {1, 10, 0, 10, 0}, {1, 10, 1, 20, 0},
            {1, 20, 0, 10, 0}, {99, 0, 98, 99, 1}, {1, 9, 0, 10, 1}};
        for (int[] r : rows) {
            RainShares x = Due.valley(r[1], r[3]);
            x.change(0, 2, r[0]);
            x.change(1, 2, r[2]);
            Due.is("ranks " + r[0] + " " + r[2] + ", shares " + r[1] + " " + r[3], x.trades(), r[4]);
        }
        RainShares y = Due.valley(5, 4, 3, 2, 1, 0);
        for (int r = 0; r < 6; r++) {
            y.change(r, 2, r);
        }
        Due.is("each pair", y.trades(), 15);
    }

    private static void fellAsManyNumbers() {
        Due.term("FELL: a SHEET tells how much fell on each ROOF (as many numbers as there are)");
        RainShares x = oneCloud(50, 50);
        for (int n = 0; n < 5; n++) {
            x.sheet(0, 16, n);
            Due.is(n + " numbers", x.fell(0, 0), n == 2 ? 1 : Due.NONE);
        }
        RainShares none = new RainShares();
        none.sheet(0, 16, 0);
        Due.is("no roofs, no numbers", none.fell(0, 0), 1);
        Due.is("no roofs, no numbers", none.fell(0, 1), 0);
        none.sheet(0, 16, 1);
        Due.is("no roofs, a number", none.fell(0, 0), Due.NONE);
    }

    private static void fellNoneSpent() {
        Due.term("sets of CLOUDS, none of them SPENT,");
        RainShares x = oneCloud(50, 50);
        x.cloud(0, 0);
        Due.lay(x, 0, 32, 12, 0);
        Due.is("two", x.fell(0, 0), 2);
        x.lead(0, 1, 19);
        Due.is("two", x.fell(0, 0), 2);
        x.lead(0, 1, 20);
        Due.is("one is spent", x.fell(0, 0), 1);
        Due.is("the other one", x.fell(0, 1), 2);
        x.lead(1, 1, 99);
        Due.is("both are spent", x.fell(0, 0), 0);
        Due.lay(x, 0, 32, 0, 0);
        Due.is("the empty set is left", x.fell(0, 0), 1);
        Due.is("the empty set is left", x.fell(0, 1), 0);
    }

    private static void fellOnThisDay() {
        Due.term("FALLING as on this DAY (each where it is, or as on Sundays)");
        RainShares x = Due.onDay(5);
        x.roof(50);
        x.roof(7);
        x.cloud(0, 0);
        x.cloud(30, 0);
        x.cloud(23, 1);
        x.change(1, 1, 3);
        Due.lay(x, 2, 32, 24, 15);
        Due.is("each where it is, on an odd day", x.fell(2, 1), 7);
        x.days(1);
        x.lead(0, 0, 0);
        x.lead(1, 0, 0);
        x.lead(2, 0, 1);
        int arrears = x.ofRoof(1, 1);
        x.change(1, 1, 3);
        Due.is("arrears", arrears, 11);
        Due.is("not so on sunday", x.fell(2, 0), 0);
        Due.lay(x, 2, 32, 0, 31);
        Due.is("all on one, leased by its shares", x.fell(2, 1), 7);
        x.change(0, 1, 3);
        Due.lay(x, 2, 32, 36, 0);
        Due.is("of several the least", x.fell(2, 1), 7);
        Due.lay(x, 2, 32, 0, 36);
        Due.is("of several the least", x.fell(2, 0), 0);
    }

    private static void fellAlone() {
        Due.term("alone, give just so much: how many; the least.");
        RainShares x = oneCloud(50, 7);
        x.cloud(0, 0);
        x.cloud(30, 1);
        x.cloud(0, 0);
        int[][] rows = {{0, 0, 1, 0}, {12, 0, 3, 1}, {24, 0, 3, 3}, {36, 0, 1, 11}, {37, 0, 0, Due.NONE},
            {11, 0, 0, Due.NONE}, {-12, 0, 0, Due.NONE}, {0, 7, 1, 4}, {36, 7, 1, 15}, {24, 7, 3, 7},
            {0, 12, 0, Due.NONE}, {Integer.MIN_VALUE, Integer.MAX_VALUE, 0, Due.NONE}};
        for (int[] r : rows) {
            Due.lay(x, 1, 32, r[0], r[1]);
            Due.is("sets for " + r[0] + " " + r[1], x.fell(1, 0), r[2]);
            Due.is("the least for " + r[0] + " " + r[1], x.fell(1, 1), r[3]);
        }
        Due.write(x, 0, "0");
        Due.lay(x, 1, 32, 0, 0);
        Due.is("clouds that give 0", x.fell(1, 0), 16);
        Due.is("the least of them", x.fell(1, 1), 0);
    }

    private static void gainsAreLess() {
        Due.term("GAINS: by how much ARREARS of a ROOF are less behind n DAYS (0 to 60) with v (1 to 20) SHARES more");
        RainShares x = oneCloud(5, 50);
        Due.is("no days", x.gains(0, 20, 0), 0);
        Due.is("one share", x.gains(0, 1, 1), 1);
        Due.is("seven", x.gains(0, 7, 1), 7);
        Due.is("eight", x.gains(0, 8, 1), 7);
        Due.is("20", x.gains(0, 20, 60), 77);
        Due.is("nothing owed", x.gains(1, 20, 60), 0);
        Due.write(x, 1, "s");
        Due.is("they may be more", x.gains(0, 1, 1), 7 * 5 - 6 * 6);
        Due.is("held, with and without", heldGains(), 0);
    }

    private static int heldGains() {
        RainShares x = oneCloud(0);
        x.change(0, 1, 9999);
        return x.gains(0, 5, 1);
    }

    private static void gainsNinetyNineAtMost() {
        Due.term("SHARES more (99 at most) than without.");
        RainShares x = Due.valley(95, 0);
        Due.write(x, 1, "s/20");
        Due.write(x, 0, "51");
        x.cloud(0, 0);
        x.cloud(0, 0);
        Due.is("just 99", x.gains(0, 4, 1), 7 * 4 - 3 * 4);
        Due.is("no more than 99", x.gains(0, 5, 1), 7 * 4 - 3 * 4);
        Due.is("no more than 99", x.gains(0, 20, 1), 7 * 4 - 3 * 4);
        x.change(0, 0, 99);
        Due.is("99 already", x.gains(0, 20, 1), 0);
    }

    private static void then() {
        Due.promise(20, "BEHIND n DAYS: what 0 ARREARS, 1 GOT of a ROOF.");
        RainShares x = oneCloud(5, 20);
        x.change(1, 1, 3);
        Due.is("arrears now", x.then(0, 1, 0), 3);
        Due.is("arrears", x.then(1, 0, 0), 7);
        Due.is("got", x.then(1, 0, 1), 12);
        Due.is("got of the other one", x.then(2, 1, 1), 12);
        Due.is("60", x.then(60, 0, 1) + x.then(60, 1, 1), 240);
        x.days(1);
        Due.is("got now", x.then(0, 0, 1), 12);
    }

    private static void thenBeyond() {
        Due.promise(20, "BEYOND.");
        RainShares x = Due.valley(5, 20);
        Due.is("n", x.then(61, 0, 0), Due.BEYOND);
        Due.is("n", x.then(-1, 0, 0), Due.BEYOND);
        Due.is("roof", x.then(1, 2, 0), Due.BEYOND);
        Due.is("roof", x.then(1, -1, 0), Due.BEYOND);
        Due.is("what", x.then(1, 0, 2), Due.BEYOND);
        Due.is("what", x.then(1, 0, -1), Due.BEYOND);
    }

    private static void drought() {
        Due.promise(21, "DROUGHT.");
        RainShares x = oneCloud(50, 50, 50);
        Due.is("1 day", x.drought(2, 1), 1);
        Due.is("60 days", x.drought(1, 60), 40);
    }

    private static void droughtBeyond() {
        Due.promise(21, "BEYOND.");
        RainShares x = Due.valley(5, 20);
        Due.is("n", x.drought(0, 0), Due.BEYOND);
        Due.is("n", x.drought(0, -1), Due.BEYOND);
        Due.is("n", x.drought(0, 61), Due.BEYOND);
        Due.is("roof", x.drought(2, 1), Due.BEYOND);
        Due.is("roof", x.drought(-1, 1), Due.BEYOND);
    }

    private static void when() {
        Due.promise(22, "WHEN (v 0 to 9999).");
        RainShares x = oneCloud(5);
        Due.is("0", x.when(0, 0), 0);
        x.change(0, 1, 9999);
        Due.is("9999", x.when(0, 9999), 0);
    }

    private static void whenBeyond() {
        Due.promise(22, "BEYOND.");
        RainShares x = oneCloud(5);
        Due.is("v", x.when(0, 10000), Due.BEYOND);
        Due.is("v", x.when(0, -1), Due.BEYOND);
        Due.is("roof", x.when(1, 1), Due.BEYOND);
        Due.is("roof", x.when(-1, 1), Due.BEYOND);
    }

    private static void whenNone() {
        Due.promise(22, "NONE: not by 60.");
        RainShares x = oneCloud(5);
        Due.is("never", Due.valley(5).when(0, 1), Due.NONE);
        Due.is("20 days of rain", x.when(0, 140), 20);
        Due.is("one drop more", x.when(0, 141), Due.NONE);
        Due.is("told", x.told(2), 1);
    }

    private static void sellers() {
        Due.promise(23, "SELLERS of v (0 to 999): what 0 the set, 1 their SHARES together.");
        RainShares x = Due.valley(10, 20, 5, 20, 0);
        Due.is("the set", x.sellers(21, 0), 3);
        Due.is("their shares", x.sellers(21, 1), 30);
        Due.is("of 0", x.sellers(0, 0), 0);
        Due.is("of 0", x.sellers(0, 1), 0);
        Due.is("no roofs, of 0", new RainShares().sellers(0, 0), 0);
        Due.is("no roofs, of 0", new RainShares().sellers(0, 1), 0);
        RainShares y = Due.valley(99, 99, 99, 99, 99, 99);
        Due.is("all", y.sellers(594, 0), 63);
        Due.is("all", y.sellers(594, 1), 594);
    }

    private static void sellersBeyond() {
        Due.promise(23, "BEYOND.");
        RainShares x = Due.valley(10);
        Due.is("v", x.sellers(1000, 0), Due.BEYOND);
        Due.is("v", x.sellers(-1, 0), Due.BEYOND);
        Due.is("what", x.sellers(0, 2), Due.BEYOND);
        Due.is("what", x.sellers(0, -1), Due.BEYOND);
    }

    private static void sellersNone() {
        Due.promise(23, "NONE: all have fewer.");
        RainShares x = Due.valley(10, 20);
        Due.is("just all", x.sellers(30, 0), 3);
        Due.is("one more", x.sellers(31, 0), Due.NONE);
        Due.is("one more", x.sellers(31, 1), Due.NONE);
        Due.is("999", x.sellers(999, 0), Due.NONE);
        Due.is("no roofs", new RainShares().sellers(1, 0), Due.NONE);
    }

    private static void clears() {
        Due.promise(24, "CLEARS.");
        RainShares x = Due.valley(1, 2);
        x.owe(0, 1, 5);
        x.owe(1, 0, 3);
        Due.is("how much", x.clears(), 6);
        Due.is("it stays", x.owed(0, 1), 5);
        Due.is("it stays", x.owed(1, 0), 3);
        Due.is("no roofs", new RainShares().clears(), 0);
        Due.is("a roof alone", Due.valley(1).clears(), 0);
    }

    private static void patches() {
        Due.promise(25, "PATCHES.");
        RainShares x = oneCloud(10);
        x.lead(0, 1, 18);
        Due.is("0", x.patches(0), 2);
        Due.is("1", x.patches(1), 7);
        Due.is("20", x.patches(20), 20);
        Due.is("wear stays", x.ofCloud(0, 3), 18);
    }

    private static void patchesBeyond() {
        Due.promise(25, "BEYOND.");
        RainShares x = oneCloud(10);
        Due.is("n", x.patches(-1), Due.BEYOND);
        Due.is("n", x.patches(21), Due.BEYOND);
    }

    private static void patchesNone() {
        Due.promise(25, "NONE: there are no CLOUDS.");
        Due.is("no roofs", new RainShares().patches(0), Due.NONE);
        Due.is("roofs alone", Due.valley(10).patches(20), Due.NONE);
        RainShares x = oneCloud(10);
        x.lead(0, 1, 99);
        Due.is("a spent one is one", x.patches(0), 0);
    }

    private static void trades() {
        Due.promise(26, "TRADES.");
        RainShares x = Due.valley(10, 5, 5, 20);
        Due.is("all of a rank", x.trades(), 0);
        x.change(1, 2, 3);
        Due.is("fewer than two others", x.trades(), 2);
        x.change(2, 2, 1);
        Due.is("those with as many do not trade", x.trades(), 4);
        x.change(3, 2, 99);
        Due.is("the greater rank with more shares", x.trades(), 2);
        Due.is("no roofs", new RainShares().trades(), 0);
        Due.is("a roof alone", Due.valley(1).trades(), 0);
    }

    private static void fell() {
        Due.promise(27, "FELL, by a SHEET: what 0 how many, 1 the least.");
        RainShares x = oneCloud(50);
        for (int c = 1; c < 5; c++) {
            x.cloud(0, 0);
        }
        Due.lay(x, 3, 8, 24);
        Due.is("how many", x.fell(3, 0), 10);
        Due.is("the least", x.fell(3, 1), 3);
        Due.lay(x, 3, 8, 60);
        Due.is("how many", x.fell(3, 0), 1);
        Due.is("the least", x.fell(3, 1), 31);
    }

    private static void fellBeyond() {
        Due.promise(27, "BEYOND.");
        RainShares x = oneCloud(50);
        Due.lay(x, 0, 8, 12);
        Due.is("what", x.fell(0, 2), Due.BEYOND);
        Due.is("what", x.fell(0, -1), Due.BEYOND);
        Due.is("sheet", x.fell(4, 0), Due.BEYOND);
        Due.is("sheet", x.fell(-1, 0), Due.BEYOND);
    }

    private static void fellNone() {
        Due.promise(27, "NONE: the SHEET is missing, has not as many numbers as there are ROOFS; "
            + "(what 1) there is none.");
        RainShares x = oneCloud(50, 50);
        Due.is("missing", x.fell(0, 0), Due.NONE);
        Due.is("missing", x.fell(0, 1), Due.NONE);
        Due.is("missing, without roofs", new RainShares().fell(0, 0), Due.NONE);
        x.sheet(0, 8, 1);
        Due.is("one too few", x.fell(0, 0), Due.NONE);
        x.sheet(0, 8, 3);
        Due.is("one too many", x.fell(0, 0), Due.NONE);
        Due.lay(x, 0, 8, 13, 0);
        Due.is("how many: none", x.fell(0, 0), 0);
        Due.is("the least: there is none", x.fell(0, 1), Due.NONE);
        Due.is("told", x.told(2), 5);
    }

    private static void gains() {
        Due.promise(28, "GAINS.");
        RainShares x = oneCloud(5);
        Due.is("v 1", x.gains(0, 1, 60), 20);
        Due.is("v 20", x.gains(0, 20, 60), 140);
        Due.is("n 0", x.gains(0, 20, 0), 0);
        Due.is("only thought", x.ofRoof(0, 0), 5);
    }

    private static void gainsBeyond() {
        Due.promise(28, "BEYOND.");
        RainShares x = oneCloud(5);
        Due.is("v", x.gains(0, 0, 1), Due.BEYOND);
        Due.is("v", x.gains(0, -1, 1), Due.BEYOND);
        Due.is("v", x.gains(0, 21, 1), Due.BEYOND);
        Due.is("n", x.gains(0, 1, 61), Due.BEYOND);
        Due.is("n", x.gains(0, 1, -1), Due.BEYOND);
        Due.is("roof", x.gains(1, 1, 1), Due.BEYOND);
        Due.is("roof", x.gains(-1, 1, 1), Due.BEYOND);
    }
}
