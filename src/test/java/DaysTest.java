/** Promises 17 to 19. */
public final class DaysTest {
    public static void main(String[] args) {
        oneDay();
        sundays();
        spent();
        prices();
        held();
        bounds();
        loose();
        looseWithOne();
        clear();
        Due.end();
    }

    private static void oneDay() {
        RainShares x = Due.valley(10, 20, 5);
        x.cloud(0, 0);
        x.cloud(0, 0);
        x.cloud(62, 1);
        Due.is("17: got in all", x.days(1), 30);
        Due.is("17: got", x.ofRoof(0, 2), 24);
        Due.is("17: hail", x.ofRoof(1, 2), 6);
        Due.is("17: arrears", x.ofRoof(0, 1), 14);
        Due.is("17: no arrears", x.ofRoof(1, 1), 0);
        Due.is("17: wear", x.ofCloud(0, 3), 1);
        Due.is("17: drifted", x.ofCloud(0, 2), 1);
        Due.is("17: drifted", x.ofCloud(2, 2), 2);
        Due.is("17: day", x.count(2), 1);
        x.change(1, 0, 24);
        Due.is("17: two days more", x.days(2), 82);
        Due.is("17: just the shares are not too much", x.ofRoof(1, 1), 0);
        Due.is("17: arrears by hail", x.ofRoof(2, 1), 21);
    }

    private static void sundays() {
        RainShares x = Due.valley(10, 20, 5);
        x.days(6);
        x.cloud(0, 0);
        x.cloud(39, 1);
        x.change(1, 1, 8);
        x.change(2, 1, 8);
        Due.is("17: on a sunday", x.days(1), 24);
        Due.is("17: of several the least", x.ofRoof(1, 2), 24);
        Due.is("17: arrears", x.ofRoof(1, 1), 12);
        Due.is("17: they drift from where they are", x.ofCloud(0, 2), 1);
        Due.is("17: leased drifts", x.ofCloud(1, 2), 0);
        Due.is("17: monday", x.days(1), 46);
        Due.is("17: monday", x.ofRoof(1, 2), 36);
        x.days(5);
        x.change(2, 1, 9999);
        x.change(2, 0, 5);
        int before = x.ofRoof(2, 2);
        sundayOverTheFirst();
        x.days(1);
        Due.is("17: leased by the shares of the roof of sunday", x.ofRoof(2, 2) - before, 17);
        Due.is("17: held", x.ofRoof(2, 1), 9999);
    }

    private static void sundayOverTheFirst() {
        RainShares x = Due.valley(11, 20);
        x.days(6);
        x.cloud(0, 1);
        x.days(1);
        Due.is("17: roof 0 on sunday", x.ofRoof(0, 2), 12);
        Due.is("17: one too much", x.ofRoof(0, 1), 1);
    }

    private static void spent() {
        RainShares x = Due.valley(10, 20);
        x.cloud(20, 0);
        x.lead(0, 1, 14);
        Due.is("17: the last rain", x.days(1), 12);
        Due.is("17: spent", x.ofCloud(0, 5), 1);
        Due.is("17: over", x.ofCloud(0, 2), 1);
        Due.is("17: nothing", x.days(1), 12);
        Due.is("17: wear stays", x.ofCloud(0, 3), 15);
        Due.is("17: a spent one drifts", x.ofCloud(0, 2), 0);
    }

    private static void prices() {
        RainShares x = Due.valley(10, 3);
        x.cloud(0, 0);
        x.change(0, 2, 2);
        Due.write(x, 1, "s/5+r+d");
        x.days(1);
        Due.is("17: price", x.ofRoof(0, 1), 8);
        x.days(1);
        Due.is("17: price of another", x.ofRoof(1, 1), 9);
        Due.write(x, 0, "d*10+m");
        x.lead(0, 0, 0);
        x.days(1);
        Due.is("17: drops", x.ofRoof(0, 2), 32);
        Due.is("17: price", x.ofRoof(0, 1), 8 + 6 * 10);
    }

    private static void held() {
        RainShares x = Due.valley(0);
        for (int i = 0; i < 5; i++) {
            x.cloud(49, 0);
        }
        Due.write(x, 0, "99");
        Due.write(x, 1, "9");
        for (int i = 0; i < 10; i++) {
            x.days(58);
            for (int c = 0; c < 5; c++) {
                x.lead(c, 1, 0);
            }
        }
        Due.is("17: got is held", x.ofRoof(0, 2), 99999);
        Due.is("17: got in all", x.count(3), 99999);
        Due.is("17: arrears are held", x.ofRoof(0, 1), 9999);
    }

    private static void bounds() {
        RainShares x = new RainShares();
        Due.is("17: n 0", x.days(0), Due.BEYOND);
        Due.is("17: n 61", x.days(61), Due.BEYOND);
        Due.is("18: n 0", x.loose(0), Due.BEYOND);
        Due.is("18: n 41", x.loose(41), Due.BEYOND);
        for (int i = 0; i < 166; i++) {
            x.days(60);
        }
        Due.is("17: day", x.count(2), 9960);
        Due.is("17: above 9999", x.days(40), Due.STATE);
        Due.is("18: above 9999", x.loose(40), Due.STATE);
        Due.is("17: up to 9998", x.days(38), 0);
        x.image();
        Due.is("18: up to 9999", x.loose(1), 0);
        x.restore();
        Due.is("17: up to 9999", x.days(1), 0);
        Due.is("17: above 9999", x.days(1), Due.STATE);
        Due.is("18: above 9999", x.loose(1), Due.STATE);
        Due.is("17: BEYOND ahead of STATE", x.days(0), Due.BEYOND);
        Due.is("17: day", x.count(2), 9999);
        x.roof(10);
        x.cloud(0, 0);
        Due.is("20: beyond 9999 in thought", x.then(5, 0, 1), 60);
    }

    private static void loose() {
        RainShares x = Due.valley(10, 20, 30);
        Due.is("18: without clouds", x.loose(3), 0);
        Due.is("18: no draws", x.count(10), 1);
        x.cloud(1, 0);
        x.cloud(2, 0);
        x.seed(77);
        int z = 77;
        int[] over = {0, 0};
        int[] got = {0, 0, 0};
        for (int d = 0; d < 3; d++) {
            z = z * 1103515245 + 12345;
            int cloud = (z >>> 8) % 2;
            z = z * 1103515245 + 12345;
            over[cloud] = (z >>> 8) % 3;
            for (int c = 0; c < 2; c++) {
                got[over[c]] += 12;
                over[c] = (over[c] + 1) % 3;
            }
        }
        Due.is("18: got in all", x.loose(3), 72);
        for (int r = 0; r < 3; r++) {
            Due.is("18: got", x.ofRoof(r, 2), got[r]);
        }
        Due.is("18: z", x.count(10), z);
        Due.is("18: over", x.ofCloud(0, 2), over[0]);
        Due.is("18: over", x.ofCloud(1, 2), over[1]);
        Due.is("18: day", x.count(2), 6);
    }

    private static void looseWithOne() {
        RainShares x = Due.valley(0, 0, 0);
        x.cloud(0, 2);
        x.seed(5);
        int z = (5 * 1103515245 + 12345) * 1103515245 + 12345;
        x.loose(1);
        Due.is("18: two draws for one cloud", x.count(10), z);
        Due.is("18: it came over", x.ofRoof((z >>> 8) % 3, 2), 12);
    }

    private static void clear() {
        RainShares x = Due.valley(1, 2, 3, 4);
        Due.is("19: nothing", x.clear(), 0);
        x.owe(0, 1, 10);
        x.owe(1, 0, 4);
        x.owe(1, 2, 7);
        x.owe(2, 0, 9);
        x.owe(0, 3, 5);
        x.owe(3, 1, 5);
        Due.is("24: only thought", x.clears(), 26);
        Due.is("24: only thought", x.owed(1, 0), 4);
        Due.is("19: how much", x.clear(), 26);
        Due.is("19: less", x.owed(0, 1), 0);
        Due.is("19: less", x.owed(1, 0), 0);
        Due.is("19: less", x.owed(1, 2), 1);
        Due.is("19: less", x.owed(2, 0), 3);
        Due.is("19: no ring", x.owed(0, 3), 5);
        Due.is("19: nothing more", x.clear(), 0);
        RainShares y = Due.valley(1, 2, 3);
        y.owe(0, 2, 5);
        y.owe(2, 1, 6);
        y.owe(1, 0, 7);
        Due.is("19: a ring the other way", y.clear(), 15);
        Due.is("19: left", y.owed(1, 0), 2);
    }
}
