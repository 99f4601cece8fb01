/** Promises 9 to 13, and what the Terms tell of CLOUDS: KINDS, FALLS, LASTS, SPENT, DRIFTS. */
public final class CloudsTest {
    private static final int[] KIND_ABOVE = {-1, 0, 0, 0, 1, 2, 3};

    public static void main(String[] args) {
        atMostFiveClouds();
        kinds();
        mWithin();
        wearWithin();
        cloudFalls();
        patchedFalls();
        thunderFalls();
        leasedFalls();
        hailFalls();
        othersFall();
        quotientsAreCut();
        lasts();
        patchedLasts();
        thunderLasts();
        wanderingLasts();
        othersLast();
        spent();
        cloudDrifts();
        wanderingDrifts();
        leasedDrifts();
        blindDrifts();
        othersDrift();
        cloud();
        cloudBeyond();
        cloudFull();
        ofCloud();
        ofCloudBeyond();
        become();
        becomeBeyond();
        as();
        asBeyond();
        asKind();
        lead();
        leadBeyond();
        Due.end();
    }

    /** A valley with these ROOFS and one CLOUD, over ROOF 0, of a KIND and m. */
    private static RainShares under(int km, int... shares) {
        RainShares x = Due.valley(shares);
        x.cloud(km, 0);
        return x;
    }

    private static void atMostFiveClouds() {
        Due.term("CLOUDS 0, 1, .. (at most 5)");
        RainShares x = Due.valley(10);
        for (int c = 0; c < 5; c++) {
            Due.is("cloud " + c, x.cloud(10 * c, 0), c);
            Due.is("clouds", x.count(1), c + 1);
        }
        Due.is("a sixth", x.cloud(0, 0), Due.FULL);
        Due.is("clouds", x.count(1), 5);
        Due.is("cloud 4", x.ofCloud(4, 0), 4);
        Due.is("cloud 5", x.ofCloud(5, 0), Due.BEYOND);
    }

    private static void kinds() {
        Due.term("of KINDS: 0 CLOUD; 1 PATCHED, 2 THUNDER, 3 LEASED under CLOUD; 4 WANDERING under PATCHED; "
            + "5 BLIND under THUNDER; 6 HAIL under LEASED;");
        RainShares x = under(0, 10);
        for (int k = 0; k < 7; k++) {
            x.become(0, 10 * k + 9 - k);
            for (int wanted = 0; wanted < 7; wanted++) {
                boolean is = wanted == k || wanted == KIND_ABOVE[k] || wanted == 0;
                Due.is(k + " as " + wanted, x.as(0, wanted), is ? 9 - k : Due.KIND);
            }
        }
    }

    private static void mWithin() {
        Due.term("with a number m (0 to 9)");
        RainShares x = Due.valley(10);
        int[] km = {0, 9, 10, 60, 69};
        for (int c = 0; c < 5; c++) {
            Due.is("cloud " + km[c], x.cloud(km[c], 0), c);
            Due.is("its m", x.ofCloud(c, 1), km[c] % 10);
            Due.is("its kind", x.ofCloud(c, 0), km[c] / 10);
        }
    }

    private static void wearWithin() {
        Due.term("WEAR (0 to 99; 0 at first)");
        RainShares x = under(0, 10);
        Due.is("at first", x.ofCloud(0, 3), 0);
        Due.is("becomes 99", x.lead(0, 1, 99), 0);
        Due.is("99", x.ofCloud(0, 3), 99);
        Due.is("becomes 0", x.lead(0, 1, 0), 99);
        Due.is("0", x.ofCloud(0, 3), 0);
    }

    private static void cloudFalls() {
        Due.term("FALLS (drops of a DAY; v is what the TEXT gives): CLOUD: v.");
        RainShares x = under(7, 0);
        Due.is("without a text", x.ofCloud(0, 6), 12);
        Due.write(x, 0, "w*10+d+m");
        x.lead(0, 1, 4);
        Due.is("what the text gives", x.ofCloud(0, 6), 47);
        x.days(1);
        Due.is("a day later", x.ofCloud(0, 6), 58);
        x.lead(0, 1, 99);
        Due.is("99, were it not spent", x.ofCloud(0, 6), 99);
        Due.write(x, 0, "0-m");
        Due.is("0", x.ofCloud(0, 6), 0);
    }

    private static void patchedFalls() {
        Due.term("PATCHED: v, less WEAR by 10 (0 at least).");
        RainShares x = under(13, 0);
        int[] wear = {0, 9, 10, 19, 20, 99};
        int[] due = {12, 12, 11, 11, 10, 3};
        for (int i = 0; i < wear.length; i++) {
            x.lead(0, 1, wear[i]);
            Due.is("with wear " + wear[i], x.ofCloud(0, 6), due[i]);
        }
        Due.write(x, 0, "9");
        Due.is("just 0", x.ofCloud(0, 6), 0);
        Due.write(x, 0, "8");
        Due.is("0 at least", x.ofCloud(0, 6), 0);
        Due.write(x, 0, "10");
        Due.is("1", x.ofCloud(0, 6), 1);
    }

    private static void thunderFalls() {
        Due.term("THUNDER: v; and m more, if DAY is odd.");
        RainShares x = under(23, 0);
        for (int day = 0; day < 4; day++) {
            Due.is("on day " + day, x.ofCloud(0, 6), day % 2 == 0 ? 12 : 15);
            x.days(1);
        }
        x.days(1);
        Due.write(x, 0, "99");
        Due.is("more than a text may give", x.ofCloud(0, 6), 102);
        x.become(0, 20);
        Due.is("m 0", x.ofCloud(0, 6), 99);
    }

    private static void leasedFalls() {
        Due.term("LEASED: v, but no more than SHARES of the ROOF on which it falls.");
        int[] shares = {11, 12, 13, 0};
        RainShares x = under(30, shares);
        int[] due = {11, 12, 12, 0};
        for (int r = 0; r < 4; r++) {
            x.lead(0, 0, r);
            Due.is("with shares " + shares[r], x.ofCloud(0, 6), due[r]);
        }
        RainShares sunday = Due.onDay(6);
        sunday.roof(3);
        sunday.roof(5);
        sunday.cloud(30, 0);
        sunday.change(1, 1, 1);
        Due.is("on sunday by the roof on which it falls", sunday.days(1), 5);
    }

    private static void hailFalls() {
        Due.term("HAIL: as LEASED, by 2.");
        int[] shares = {11, 12, 13, 14, 1, 0};
        RainShares x = under(60, shares);
        int[] due = {5, 6, 6, 6, 0, 0};
        for (int r = 0; r < 6; r++) {
            x.lead(0, 0, r);
            Due.is("with shares " + shares[r], x.ofCloud(0, 6), due[r]);
        }
        Due.write(x, 0, "13");
        x.lead(0, 0, 3);
        Due.is("13 by 2", x.ofCloud(0, 6), 6);
    }

    private static void othersFall() {
        Due.term("HAIL: as LEASED, by 2. (Others as the KIND above.)");
        for (int day = 0; day < 2; day++) {
            RainShares x = under(43, 0);
            x.cloud(53, 0);
            if (day == 1) {
                x.days(1);
            }
            int[] wear = {0, 9, 10, 40, 99};
            int[] due = {12, 12, 11, 8, 3};
            for (int i = 0; i < wear.length; i++) {
                x.lead(0, 1, wear[i]);
                x.lead(1, 1, wear[i]);
                Due.is("wandering with wear " + wear[i], x.ofCloud(0, 6), due[i]);
                Due.is("blind with wear " + wear[i], x.ofCloud(1, 6), 12 + 3 * day);
            }
            Due.write(x, 0, "8");
            Due.is("wandering, 0 at least", x.ofCloud(0, 6), 0);
        }
    }

    private static void quotientsAreCut() {
        Due.term("Quotients are cut.");
        RainShares x = under(69, 5);
        Due.is("5 by 2", x.ofCloud(0, 6), 2);
        x.become(0, 10);
        x.lead(0, 1, 19);
        Due.is("19 by 10", x.ofCloud(0, 6), 11);
        Due.write(x, 0, "(0-7)/2+9");
        Due.is("below 0 they are cut, too", x.law(0, 0, 0, 0), 6);
        Due.write(x, 0, "7/2");
        Due.is("7 by 2", x.law(0, 0, 0, 0), 3);
    }

    private static void lastsAre(int kind, int... due) {
        RainShares x = under(0, 10);
        int[] ms = {0, 1, 9};
        for (int i = 0; i < ms.length; i++) {
            x.become(0, 10 * kind + ms[i]);
            Due.is("kind " + kind + " with m " + ms[i], x.ofCloud(0, 4), due[i]);
        }
    }

    private static void lasts() {
        Due.term("LASTS: CLOUD: 20.");
        lastsAre(0, 20, 20, 20);
    }

    private static void patchedLasts() {
        Due.term("PATCHED: 20, and m.");
        lastsAre(1, 20, 21, 29);
    }

    private static void thunderLasts() {
        Due.term("THUNDER: 15.");
        lastsAre(2, 15, 15, 15);
    }

    private static void wanderingLasts() {
        Due.term("WANDERING: twice as PATCHED.");
        lastsAre(4, 40, 42, 58);
    }

    private static void othersLast() {
        Due.term("WANDERING: twice as PATCHED. (Others as the KIND above.)");
        lastsAre(3, 20, 20, 20);
        lastsAre(5, 15, 15, 15);
        lastsAre(6, 20, 20, 20);
    }

    private static void spent() {
        Due.term("It is SPENT, if WEAR is LASTS or more.");
        int[] lasts = {20, 23, 15, 20, 46, 15, 20};
        RainShares x = under(0, 10);
        for (int k = 0; k < 7; k++) {
            x.become(0, 10 * k + 3);
            x.lead(0, 1, 0);
            Due.is("new, kind " + k, x.ofCloud(0, 5), 0);
            x.lead(0, 1, lasts[k] - 1);
            Due.is("one fewer, kind " + k, x.ofCloud(0, 5), 0);
            x.lead(0, 1, lasts[k]);
            Due.is("just so much, kind " + k, x.ofCloud(0, 5), 1);
            x.lead(0, 1, lasts[k] + 1);
            Due.is("one more, kind " + k, x.ofCloud(0, 5), 1);
            x.lead(0, 1, 99);
            Due.is("99, kind " + k, x.ofCloud(0, 5), 1);
        }
    }

    private static void driftsAre(RainShares x, int km, int... dueFromEachRoof) {
        x.become(0, km);
        for (int r = 0; r < dueFromEachRoof.length; r++) {
            x.lead(0, 0, r);
            Due.is(km + " from roof " + r, x.ofCloud(0, 7), dueFromEachRoof[r]);
        }
    }

    private static void cloudDrifts() {
        Due.term("DRIFTS to a ROOF (the rest by how many there are): CLOUD: the one OVER which it is, and 1.");
        RainShares x = under(0, 1, 2, 3, 4);
        driftsAre(x, 6, 1, 2, 3, 0);
        driftsAre(under(0, 1), 6, 0);
        driftsAre(under(0, 1, 2, 3, 4, 5, 6), 6, 1, 2, 3, 4, 5, 0);
    }

    private static void wanderingDrifts() {
        Due.term("WANDERING: that, and 1, and m.");
        RainShares x = under(0, 1, 2, 3, 4);
        driftsAre(x, 40, 1, 2, 3, 0);
        driftsAre(x, 42, 3, 0, 1, 2);
        driftsAre(x, 43, 0, 1, 2, 3);
        driftsAre(x, 49, 2, 3, 0, 1);
        driftsAre(under(0, 1), 49, 0);
    }

    private static void leasedDrifts() {
        Due.term("LEASED: m (the rest likewise).");
        RainShares x = under(0, 1, 2, 3, 4);
        driftsAre(x, 30, 0, 0, 0, 0);
        driftsAre(x, 33, 3, 3, 3, 3);
        driftsAre(x, 34, 0, 0, 0, 0);
        driftsAre(x, 39, 1, 1, 1, 1);
        driftsAre(under(0, 1), 39, 0);
    }

    private static void blindDrifts() {
        Due.term("BLIND: DAY.");
        for (int day : new int[] {0, 3, 4, 5, 59, 9999}) {
            RainShares x = Due.onDay(day);
            for (int r = 0; r < 4; r++) {
                x.roof(r);
            }
            x.cloud(57, 0);
            driftsAre(x, 57, day % 4, day % 4, day % 4, day % 4);
        }
    }

    private static void othersDrift() {
        Due.term("BLIND: DAY. (Others as the KIND above.)");
        RainShares x = under(0, 1, 2, 3, 4);
        driftsAre(x, 16, 1, 2, 3, 0);
        driftsAre(x, 26, 1, 2, 3, 0);
        driftsAre(x, 63, 3, 3, 3, 3);
        driftsAre(x, 69, 1, 1, 1, 1);
    }

    private static void cloud() {
        Due.promise(9, "A CLOUD (km: 10 times the KIND, and m) OVER a ROOF: its number.");
        RainShares x = Due.valley(10, 20);
        Due.is("number", x.cloud(69, 1), 0);
        Due.is("number", x.cloud(0, 0), 1);
        Due.is("number", x.cloud(25, 0), 2);
        Due.is("kind", x.ofCloud(0, 0), 6);
        Due.is("m", x.ofCloud(0, 1), 9);
        Due.is("over", x.ofCloud(0, 2), 1);
        Due.is("kind", x.ofCloud(2, 0), 2);
        Due.is("m", x.ofCloud(2, 1), 5);
        Due.is("over", x.ofCloud(2, 2), 0);
    }

    private static void cloudBeyond() {
        Due.promise(9, "BEYOND.");
        Due.is("no roofs", new RainShares().cloud(0, 0), Due.BEYOND);
        RainShares x = Due.valley(10, 20);
        Due.is("km", x.cloud(70, 0), Due.BEYOND);
        Due.is("km", x.cloud(-1, 0), Due.BEYOND);
        Due.is("roof", x.cloud(0, 2), Due.BEYOND);
        Due.is("roof", x.cloud(0, -1), Due.BEYOND);
        Due.is("no cloud then", x.count(1), 0);
    }

    private static void cloudFull() {
        Due.promise(9, "FULL.");
        RainShares x = Due.valley(10);
        for (int c = 0; c < 4; c++) {
            x.cloud(0, 0);
        }
        x.lead(0, 1, 99);
        Due.is("the last one", x.cloud(0, 0), 4);
        Due.is("full, though one is spent", x.cloud(0, 0), Due.FULL);
    }

    private static void ofCloud() {
        Due.promise(10, "Of a CLOUD: 0 KIND, 1 m, 2 OVER, 3 WEAR, 4 LASTS, 5 whether SPENT, 6 what it FALLS on the "
            + "ROOF OVER which it is, were it not SPENT, 7 where it DRIFTS next.");
        RainShares x = Due.valley(10, 20, 30);
        x.cloud(0, 0);
        x.cloud(42, 1);
        x.lead(1, 1, 43);
        int[] due = {4, 2, 1, 43, 44, 0, 8, 1};
        for (int what = 0; what < 8; what++) {
            Due.is("what " + what, x.ofCloud(1, what), due[what]);
        }
        x.lead(1, 1, 44);
        Due.is("spent", x.ofCloud(1, 5), 1);
        Due.is("falls, were it not spent", x.ofCloud(1, 6), 8);
        Due.is("drifts, spent or not", x.ofCloud(1, 7), 1);
        RainShares sunday = Due.onDay(6);
        sunday.roof(3);
        sunday.roof(5);
        sunday.cloud(30, 0);
        sunday.change(1, 1, 1);
        Due.is("over which it is, on sunday, too", sunday.ofCloud(0, 6), 3);
    }

    private static void ofCloudBeyond() {
        Due.promise(10, "BEYOND.");
        RainShares x = under(0, 10);
        Due.is("what 8", x.ofCloud(0, 8), Due.BEYOND);
        Due.is("what -1", x.ofCloud(0, -1), Due.BEYOND);
        Due.is("one more than there are", x.ofCloud(1, 0), Due.BEYOND);
        Due.is("cloud -1", x.ofCloud(-1, 0), Due.BEYOND);
        Due.is("no clouds", Due.valley(10).ofCloud(0, 0), Due.BEYOND);
    }

    private static void become() {
        Due.promise(11, "A CLOUD becomes one of a KIND, with m (km): the KIND that it was.");
        RainShares x = Due.valley(10, 20);
        x.cloud(4, 1);
        x.cloud(4, 0);
        x.lead(0, 1, 13);
        int was = 0;
        for (int k = 6; k >= 0; k--) {
            Due.is("was", x.become(0, 10 * k + k), was);
            Due.is("is", x.ofCloud(0, 0), k);
            Due.is("m", x.ofCloud(0, 1), k);
            was = k;
        }
        Due.is("69", x.become(0, 69), 0);
        Due.is("0", x.become(0, 0), 6);
        Due.is("wear stays", x.ofCloud(0, 3), 13);
        Due.is("over stays", x.ofCloud(0, 2), 1);
        Due.is("the other one stays", x.ofCloud(1, 1), 4);
    }

    private static void becomeBeyond() {
        Due.promise(11, "BEYOND.");
        RainShares x = under(25, 10);
        Due.is("km", x.become(0, 70), Due.BEYOND);
        Due.is("km", x.become(0, -1), Due.BEYOND);
        Due.is("cloud", x.become(1, 0), Due.BEYOND);
        Due.is("cloud", x.become(-1, 0), Due.BEYOND);
        Due.is("it stays", x.ofCloud(0, 0), 2);
    }

    private static void as() {
        Due.promise(12, "A CLOUD as one of a KIND: m.");
        RainShares x = under(47, 10);
        Due.is("as its own", x.as(0, 4), 7);
        Due.is("as the one above", x.as(0, 1), 7);
        Due.is("as the one above that", x.as(0, 0), 7);
    }

    private static void asBeyond() {
        Due.promise(12, "BEYOND.");
        RainShares x = under(60, 10);
        Due.is("kind 6", x.as(0, 6), 0);
        Due.is("kind 7", x.as(0, 7), Due.BEYOND);
        Due.is("kind -1", x.as(0, -1), Due.BEYOND);
        Due.is("cloud 1", x.as(1, 0), Due.BEYOND);
        Due.is("cloud -1", x.as(-1, 0), Due.BEYOND);
    }

    private static void asKind() {
        Due.promise(12, "KIND: it isn't of that KIND, nor of one under it.");
        RainShares x = under(15, 10);
        Due.is("one under its own", x.as(0, 4), Due.KIND);
        Due.is("one beside it", x.as(0, 2), Due.KIND);
        Due.is("one under that", x.as(0, 5), Due.KIND);
        x.become(0, 5);
        for (int kind = 1; kind < 7; kind++) {
            Due.is("a plain one", x.as(0, kind), Due.KIND);
        }
        Due.is("told", x.told(5), 9);
    }

    private static void lead() {
        Due.promise(13, "OVER (what 0), WEAR (1) of a CLOUD becomes v: what it was.");
        RainShares x = Due.valley(10, 20, 30);
        x.cloud(0, 1);
        x.cloud(0, 1);
        Due.is("over", x.lead(0, 0, 0), 1);
        Due.is("over", x.lead(0, 0, 2), 0);
        Due.is("over", x.ofCloud(0, 2), 2);
        Due.is("wear", x.lead(0, 1, 99), 0);
        Due.is("wear", x.lead(0, 1, 3), 99);
        Due.is("wear", x.ofCloud(0, 3), 3);
        Due.is("the other one", x.ofCloud(1, 2), 1);
        Due.is("the other one", x.ofCloud(1, 3), 0);
    }

    private static void leadBeyond() {
        Due.promise(13, "BEYOND.");
        RainShares x = Due.valley(10, 20);
        x.cloud(0, 1);
        Due.is("no such roof", x.lead(0, 0, 2), Due.BEYOND);
        Due.is("no such roof", x.lead(0, 0, -1), Due.BEYOND);
        Due.is("above", x.lead(0, 1, 100), Due.BEYOND);
        Due.is("below", x.lead(0, 1, -1), Due.BEYOND);
        Due.is("what", x.lead(0, 2, 0), Due.BEYOND);
        Due.is("what", x.lead(0, -1, 0), Due.BEYOND);
        Due.is("cloud", x.lead(1, 0, 0), Due.BEYOND);
        Due.is("cloud", x.lead(-1, 0, 0), Due.BEYOND);
        Due.is("it stays", x.ofCloud(0, 2), 1);
        Due.is("it stays", x.ofCloud(0, 3), 0);
    }
}
