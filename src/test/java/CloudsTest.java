/** Promises 9 to 13. */
public final class CloudsTest {
    public static void main(String[] args) {
        cloudAndOfCloud();
        lastsAndFalls();
        drifts();
        becomeAndAs();
        lead();
        Due.end();
    }

    private static void cloudAndOfCloud() {
        RainShares x = new RainShares();
        Due.is("9: no roof yet", x.cloud(0, 0), Due.BEYOND);
        x.roof(10);
        x.roof(20);
        Due.is("9: km", x.cloud(70, 0), Due.BEYOND);
        Due.is("9: km", x.cloud(-1, 0), Due.BEYOND);
        Due.is("9: roof", x.cloud(0, 2), Due.BEYOND);
        Due.is("9: roof", x.cloud(0, -1), Due.BEYOND);
        Due.is("9: number", x.cloud(69, 1), 0);
        Due.is("9: number", x.cloud(0, 0), 1);
        Due.is("9: number", x.cloud(25, 0), 2);
        Due.is("9: number", x.cloud(31, 0), 3);
        Due.is("9: number", x.cloud(48, 0), 4);
        Due.is("9: full", x.cloud(0, 0), Due.FULL);
        Due.is("9: BEYOND ahead of FULL", x.cloud(70, 0), Due.BEYOND);
        Due.is("10: kind", x.ofCloud(0, 0), 6);
        Due.is("10: m", x.ofCloud(0, 1), 9);
        Due.is("10: over", x.ofCloud(0, 2), 1);
        Due.is("10: wear", x.ofCloud(0, 3), 0);
        Due.is("10: spent", x.ofCloud(0, 5), 0);
        Due.is("10: what", x.ofCloud(0, 8), Due.BEYOND);
        Due.is("10: what", x.ofCloud(0, -1), Due.BEYOND);
        Due.is("10: cloud", x.ofCloud(5, 0), Due.BEYOND);
        Due.is("10: cloud", x.ofCloud(-1, 0), Due.BEYOND);
        Due.is("9: told", x.told(4), 1);
    }

    private static void lastsAndFalls() {
        RainShares x = Due.valley(7, 50);
        x.cloud(0, 0);
        // by KINDS with m 3: LASTS, what FALLS at WEAR 0 on DAY 0, with WEAR 59, on DAY 1
        int[] lasts = {20, 23, 15, 20, 46, 15, 20};
        int[] falls = {12, 12, 12, 7, 12, 12, 3};
        int[] worn = {12, 7, 12, 7, 7, 12, 3};
        int[] odd = {12, 12, 15, 7, 12, 15, 3};
        for (int k = 0; k < 7; k++) {
            x.become(0, 10 * k + 3);
            Due.is("10: lasts of " + k, x.ofCloud(0, 4), lasts[k]);
            Due.is("10: falls of " + k, x.ofCloud(0, 6), falls[k]);
            x.lead(0, 1, lasts[k] - 1);
            Due.is("10: not yet spent " + k, x.ofCloud(0, 5), 0);
            x.lead(0, 1, lasts[k]);
            Due.is("10: spent " + k, x.ofCloud(0, 5), 1);
            x.lead(0, 1, 59);
            Due.is("10: falls, worn, were it not spent, of " + k, x.ofCloud(0, 6), worn[k]);
            x.lead(0, 1, 0);
        }
        x.lead(0, 0, 1);
        x.become(0, 33);
        Due.is("10: leased with more shares", x.ofCloud(0, 6), 12);
        x.become(0, 63);
        Due.is("10: hail with more shares", x.ofCloud(0, 6), 6);
        x.days(1);
        x.lead(0, 0, 0);
        x.lead(0, 1, 0);
        for (int k = 0; k < 7; k++) {
            x.become(0, 10 * k + 3);
            Due.is("10: falls on an odd day of " + k, x.ofCloud(0, 6), odd[k]);
        }
        x.become(0, 13);
        x.lead(0, 1, 9);
        Due.is("10: patched, wear 9", x.ofCloud(0, 6), 12);
        x.lead(0, 1, 10);
        Due.is("10: patched, wear 10", x.ofCloud(0, 6), 11);
        Due.write(x, 0, "w/9");
        x.lead(0, 1, 25);
        Due.is("10: patched, 0 at least", x.ofCloud(0, 6), 0);
    }

    private static void drifts() {
        RainShares x = Due.valley(1, 2, 3, 4);
        x.cloud(0, 3);
        int[] due = {0, 0, 0, 2, 2, 0, 2};
        int[] onDay5 = {0, 0, 0, 2, 2, 1, 2};
        for (int k = 0; k < 7; k++) {
            x.become(0, 10 * k + 6);
            Due.is("10: drifts, kind " + k, x.ofCloud(0, 7), due[k]);
        }
        x.days(5);
        x.lead(0, 0, 3);
        for (int k = 0; k < 7; k++) {
            x.become(0, 10 * k + 6);
            Due.is("10: drifts on day 5, kind " + k, x.ofCloud(0, 7), onDay5[k]);
        }
    }

    private static void becomeAndAs() {
        RainShares x = Due.valley(10);
        x.cloud(4, 0);
        int[] above = {-1, 0, 0, 0, 1, 2, 3};
        for (int k = 0; k < 7; k++) {
            x.become(0, 10 * k + 9 - k);
            for (int wanted = 0; wanted < 7; wanted++) {
                boolean is = wanted == k || wanted == above[k] || wanted == 0;
                Due.is("12: " + k + " as " + wanted, x.as(0, wanted), is ? 9 - k : Due.KIND);
            }
        }
        Due.is("12: kind 7", x.as(0, 7), Due.BEYOND);
        Due.is("12: kind -1", x.as(0, -1), Due.BEYOND);
        Due.is("12: cloud", x.as(1, 0), Due.BEYOND);
        x.lead(0, 1, 13);
        Due.is("11: was", x.become(0, 41), 6);
        Due.is("11: was", x.become(0, 0), 4);
        Due.is("11: wear stays", x.ofCloud(0, 3), 13);
        Due.is("11: km", x.become(0, 70), Due.BEYOND);
        Due.is("11: km", x.become(0, -1), Due.BEYOND);
        Due.is("11: cloud", x.become(1, 0), Due.BEYOND);
        Due.is("11: cloud", x.become(-1, 0), Due.BEYOND);
    }

    private static void lead() {
        RainShares x = Due.valley(10, 20);
        x.cloud(0, 1);
        Due.is("13: over", x.lead(0, 0, 0), 1);
        Due.is("13: over", x.ofCloud(0, 2), 0);
        Due.is("13: no such roof", x.lead(0, 0, 2), Due.BEYOND);
        Due.is("13: no such roof", x.lead(0, 0, -1), Due.BEYOND);
        Due.is("13: wear", x.lead(0, 1, 99), 0);
        Due.is("13: wear", x.lead(0, 1, 3), 99);
        Due.is("13: above", x.lead(0, 1, 100), Due.BEYOND);
        Due.is("13: below", x.lead(0, 1, -1), Due.BEYOND);
        Due.is("13: what", x.lead(0, 2, 0), Due.BEYOND);
        Due.is("13: cloud", x.lead(1, 0, 0), Due.BEYOND);
        Due.is("13: stays", x.ofCloud(0, 3), 3);
    }
}
