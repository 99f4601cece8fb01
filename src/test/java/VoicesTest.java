/** Promises 29 to 31. */
public final class VoicesTest {
    public static void main(String[] args) {
        seed();
        answers();
        traces();
        bounds();
        Due.end();
    }

    private static void seed() {
        RainShares x = new RainShares();
        Due.is("29: at first", x.seed(Integer.MIN_VALUE), 1);
        Due.is("29: any number", x.seed(-5), Integer.MIN_VALUE);
        Due.is("29: z", x.count(10), -5);
        x.seed(Integer.MIN_VALUE);
        x.count(10);
        Due.is("29: no errors", x.told(1) + x.told(2) + x.told(3) + x.told(4) + x.told(5), 0);
    }

    /** The voices of CLOUD n with m, as written out by hand. */
    private static int due(int kind, int act, int x, int n, int m) {
        boolean thunder = kind == 2 || kind == 5;
        boolean leased = kind == 3 || kind == 6;
        int rains = thunder ? (x + n) * 3 : x + n;
        int wears = kind == 1 ? m - x : kind == 4 ? (m - x) ^ n : x - m;
        int inner = kind == 6 ? x + 1 : x;
        int drifts = thunder ? (x + n) * 6 : (inner + n) * 2;
        drifts = leased ? drifts - (1 - m) : drifts;
        int tells = drifts ^ wears;
        if (kind == 4) {
            tells = drifts - tells;
        } else if (kind == 5) {
            tells = tells - (2 + n) * 3;
        }
        return act == 0 ? rains : act == 1 ? drifts : act == 2 ? wears : tells;
    }

    private static void answers() {
        RainShares x = Due.valley(10);
        int[] numbers = {0, 1, 5, -7, 1000, Integer.MAX_VALUE, Integer.MIN_VALUE};
        for (int c = 0; c < 5; c++) {
            x.cloud(0, 0);
        }
        for (int kind = 0; kind < 7; kind++) {
            for (int act = 0; act < 4; act++) {
                for (int v : numbers) {
                    x.become(3, 10 * kind + 4);
                    Due.is("30: kind " + kind + " act " + act + " " + v,
                        x.voice(3, act, v), due(kind, act, v, 3, 4));
                }
            }
        }
    }

    private static void trace(RainShares x, int km, int act, int... due) {
        x.become(0, km);
        x.voice(0, act, 3);
        Due.is("31: many", x.count(9), due.length);
        for (int i = 0; i < due.length; i++) {
            Due.is("31: trace " + i + " of " + km, x.trace(i), due[i]);
        }
        Due.is("31: behind the last", x.trace(due.length), Due.NONE);
    }

    private static void traces() {
        RainShares x = Due.valley(10);
        x.cloud(0, 0);
        Due.is("31: none yet", x.trace(0), Due.NONE);
        trace(x, 0, 0, 10);
        trace(x, 0, 1, 11, 10);
        trace(x, 0, 2, 12);
        trace(x, 0, 3, 13, 11, 10, 12);
        trace(x, 10, 2, 20, 12);
        trace(x, 20, 0, 30, 10);
        trace(x, 30, 1, 40, 11, 10, 12);
        trace(x, 40, 2, 50, 20, 12);
        trace(x, 40, 3, 51, 11, 10, 13, 11, 10, 50, 20, 12);
        trace(x, 50, 3, 60, 13, 11, 30, 10, 12, 30, 10);
        trace(x, 60, 1, 70, 40, 11, 10, 12);
        Due.is("31: -1", x.trace(-1), Due.NONE);
        Due.is("31: 40", x.trace(40), Due.NONE);
    }

    private static void bounds() {
        RainShares x = Due.valley(10);
        x.cloud(0, 0);
        x.voice(0, 3, 1);
        Due.is("30: cloud", x.voice(1, 0, 0), Due.BEYOND);
        Due.is("30: cloud", x.voice(-1, 0, 0), Due.BEYOND);
        Due.is("30: act", x.voice(0, 4, 0), Due.BEYOND);
        Due.is("30: act", x.voice(0, -1, 0), Due.BEYOND);
        Due.is("31: the trace stays", x.count(9), 4);
        Due.is("30: any number", x.voice(0, 0, Integer.MIN_VALUE), Integer.MIN_VALUE);
        Due.is("30: that is no error", x.told(1), 4);
    }
}
