/** Promises 29 to 31, and what the Terms tell of VOICES and THE TRACE. */
public final class VoicesTest {
    private static final int MIN = Integer.MIN_VALUE;
    private static final int MAX = Integer.MAX_VALUE;
    private static final int RAINS = 0;
    private static final int DRIFTS = 1;
    private static final int WEARS = 2;
    private static final int TELLS = 3;

    public static void main(String[] args) {
        goRound();
        plainRains();
        plainDrifts();
        plainWears();
        plainTells();
        patchedWears();
        thunderRains();
        leasedDrifts();
        wanderingWears();
        wanderingTells();
        blindTells();
        hailDrifts();
        bodyOfItsKind();
        bodyFromAbove();
        traceAsTheyBegan();
        traceOfTheLatest();
        seed();
        voice();
        voiceBeyond();
        trace();
        traceNone();
        Due.end();
    }

    /** What CLOUD n with m, of a KIND, answers. */
    private static int said(int kind, int n, int m, int act, int x) {
        RainShares valley = Due.valley(10);
        for (int c = 0; c <= n; c++) {
            valley.cloud(0, 0);
        }
        valley.become(n, 10 * kind + m);
        return valley.voice(n, act, x);
    }

    private static void goRound() {
        Due.term("VOICES of a CLOUD, with a number x (ints that go round); n is the number, m as told:");
        Due.is("x + n", said(0, 3, 4, RAINS, MAX), MIN + 2);
        Due.is("rains * 2", said(0, 0, 4, DRIFTS, MIN), 0);
        Due.is("rains * 2", said(0, 1, 4, DRIFTS, MAX), 0);
        Due.is("x - m", said(0, 3, 4, WEARS, MIN), MAX - 3);
        Due.is("-wears", said(1, 3, 0, WEARS, MIN), MIN);
        Due.is("rains * 3", said(2, 0, 4, RAINS, MAX), MAX - 2);
        Due.is("drifts(x + 1)", said(6, 0, 1, DRIFTS, MAX), 0);
        Due.is("n 4, m 9", said(0, 4, 9, RAINS, 10) + 100 * said(0, 4, 9, WEARS, 10), 114);
    }

    private static void plainRains() {
        Due.term("BODIES: CLOUD: 10 rains: x + n.");
        for (int kind : new int[] {0, 1, 3, 4, 6}) {
            Due.is("kind " + kind, said(kind, 3, 4, RAINS, 7), 10);
        }
    }

    private static void plainDrifts() {
        Due.term("11 drifts: rains(x) * 2.");
        for (int kind : new int[] {0, 1, 4}) {
            Due.is("kind " + kind, said(kind, 3, 4, DRIFTS, 7), 20);
        }
        Due.is("rains of its kind", said(2, 3, 4, DRIFTS, 7), 60);
        Due.is("rains of the kind above", said(5, 3, 4, DRIFTS, 7), 60);
    }

    private static void plainWears() {
        Due.term("12 wears: x - m.");
        for (int kind : new int[] {0, 2, 3, 5, 6}) {
            Due.is("kind " + kind, said(kind, 3, 4, WEARS, 7), 3);
        }
        Due.is("below 0", said(0, 3, 9, WEARS, -7), -16);
    }

    private static void plainTells() {
        Due.term("13 tells: drifts(x) ^ wears(x).");
        Due.is("cloud", said(0, 3, 4, TELLS, 7), 20 ^ 3);
        Due.is("patched", said(1, 3, 4, TELLS, 7), 20 ^ -3);
        Due.is("thunder", said(2, 3, 4, TELLS, 7), 60 ^ 3);
        Due.is("leased", said(3, 3, 4, TELLS, 7), 23 ^ 3);
        Due.is("hail", said(6, 3, 4, TELLS, 7), 25 ^ 3);
    }

    private static void patchedWears() {
        Due.term("PATCHED: 20 wears: -super.wears(x).");
        Due.is("7", said(1, 3, 4, WEARS, 7), -3);
        Due.is("4", said(1, 3, 4, WEARS, 4), 0);
    }

    private static void thunderRains() {
        Due.term("THUNDER: 30 rains: super.rains(x) * 3.");
        Due.is("thunder", said(2, 3, 4, RAINS, 7), 30);
        Due.is("blind", said(5, 3, 4, RAINS, 7), 30);
    }

    private static void leasedDrifts() {
        Due.term("LEASED: 40 drifts: super.drifts(x) - wears(1).");
        Due.is("m 4", said(3, 3, 4, DRIFTS, 7), 23);
        Due.is("m 0", said(3, 3, 0, DRIFTS, 7), 19);
    }

    private static void wanderingWears() {
        Due.term("WANDERING: 50 wears: super.wears(x) ^ n.");
        Due.is("n 3", said(4, 3, 4, WEARS, 7), -3 ^ 3);
        Due.is("n 0", said(4, 0, 4, WEARS, 7), -3);
    }

    private static void wanderingTells() {
        Due.term("51 tells: drifts(x) - super.tells(x).");
        Due.is("n 3", said(4, 3, 4, TELLS, 7), 20 - (20 ^ -3 ^ 3));
        Due.is("n 1", said(4, 1, 0, TELLS, 5), 12 - (12 ^ -5 ^ 1));
    }

    private static void blindTells() {
        Due.term("BLIND: 60 tells: super.tells(x) - rains(2).");
        Due.is("n 3", said(5, 3, 4, TELLS, 7), (60 ^ 3) - 15);
        Due.is("n 0", said(5, 0, 9, TELLS, 7), (42 ^ -2) - 6);
    }

    private static void hailDrifts() {
        Due.term("HAIL: 70 drifts: super.drifts(x + 1).");
        Due.is("m 4", said(6, 3, 4, DRIFTS, 7), 25);
        Due.is("m 0", said(6, 3, 0, DRIFTS, 7), 21);
    }

    private static void trace(int km, int act, int... due) {
        RainShares x = Due.valley(10);
        x.cloud(km, 0);
        x.voice(0, act, 3);
        Due.is("many", x.count(9), due.length);
        for (int i = 0; i < due.length; i++) {
            Due.is("trace " + i + " of " + km, x.trace(i), due[i]);
        }
        Due.is("behind the last", x.trace(due.length), Due.NONE);
    }

    private static void bodyOfItsKind() {
        Due.term("rains(..) is the BODY of its KIND, or of the next KIND above that has one;");
        trace(20, DRIFTS, 11, 30, 10);
        trace(50, DRIFTS, 11, 30, 10);
        trace(40, RAINS, 10);
        trace(50, WEARS, 12);
        trace(60, WEARS, 12);
        trace(60, RAINS, 10);
    }

    private static void bodyFromAbove() {
        Due.term("super.rains(..) that from the KIND above the BODY's on.");
        trace(50, RAINS, 30, 10);
        trace(40, WEARS, 50, 20, 12);
        trace(60, DRIFTS, 70, 40, 11, 10, 12);
    }

    private static void traceAsTheyBegan() {
        Due.term("THE TRACE: the numbers of BODIES of the latest voice(), as they began (what stands left is worked "
            + "out first), the first 40.");
        trace(0, RAINS, 10);
        trace(0, DRIFTS, 11, 10);
        trace(0, WEARS, 12);
        trace(0, TELLS, 13, 11, 10, 12);
        trace(10, WEARS, 20, 12);
        trace(10, TELLS, 13, 11, 10, 20, 12);
        trace(20, RAINS, 30, 10);
        trace(20, TELLS, 13, 11, 30, 10, 12);
        trace(30, DRIFTS, 40, 11, 10, 12);
        trace(30, TELLS, 13, 40, 11, 10, 12, 12);
        trace(40, WEARS, 50, 20, 12);
        trace(40, DRIFTS, 11, 10);
        trace(40, TELLS, 51, 11, 10, 13, 11, 10, 50, 20, 12);
        trace(50, RAINS, 30, 10);
        trace(50, TELLS, 60, 13, 11, 30, 10, 12, 30, 10);
        trace(60, DRIFTS, 70, 40, 11, 10, 12);
        trace(60, TELLS, 13, 70, 40, 11, 10, 12, 12);
    }

    private static void traceOfTheLatest() {
        Due.term("BODIES of the latest voice()");
        RainShares x = Due.valley(10);
        x.cloud(40, 0);
        Due.is("none yet", x.count(9), 0);
        x.voice(0, TELLS, 3);
        Due.is("nine", x.count(9), 9);
        x.voice(0, WEARS, 3);
        Due.is("three", x.count(9), 3);
        Due.is("the first", x.trace(0), 50);
        Due.is("no fourth", x.trace(3), Due.NONE);
        Due.is("refused", x.voice(1, RAINS, 3), Due.BEYOND);
        Due.is("still three", x.count(9), 3);
    }

    private static void seed() {
        Due.promise(29, "z becomes v: what it was (any number).");
        RainShares x = new RainShares();
        Due.is("at first", x.seed(MIN), 1);
        Due.is("any number", x.seed(-1000000003), MIN);
        Due.is("any number", x.seed(MAX), -1000000003);
        Due.is("z", x.count(10), MAX);
        Due.is("no errors", Due.errorsInAll(x), 0);
    }

    private static void voice() {
        Due.promise(30, "A VOICE of a CLOUD: any number.");
        RainShares x = Due.valley(10);
        x.cloud(0, 0);
        Due.is("the least", x.voice(0, RAINS, MIN), MIN);
        Due.is("one like an error", x.voice(0, RAINS, -1000000001), -1000000001);
        Due.is("no errors", Due.errorsInAll(x), 0);
        x.lead(0, 1, 99);
        Due.is("a spent one has voices, too", x.voice(0, TELLS, 1), 3);
    }

    private static void voiceBeyond() {
        Due.promise(30, "BEYOND.");
        RainShares x = Due.valley(10);
        Due.is("no clouds", x.voice(0, RAINS, 0), Due.BEYOND);
        x.cloud(0, 0);
        Due.is("cloud", x.voice(1, RAINS, 0), Due.BEYOND);
        Due.is("cloud", x.voice(-1, RAINS, 0), Due.BEYOND);
        Due.is("act", x.voice(0, 4, 0), Due.BEYOND);
        Due.is("act", x.voice(0, -1, 0), Due.BEYOND);
        Due.is("no trace", x.count(9), 0);
    }

    private static void trace() {
        Due.promise(31, "THE TRACE's i-th.");
        RainShares x = Due.valley(10);
        x.cloud(0, 0);
        x.voice(0, TELLS, 3);
        int[] due = {13, 11, 10, 12};
        for (int i = 0; i < 4; i++) {
            Due.is("i " + i, x.trace(i), due[i]);
        }
    }

    private static void traceNone() {
        Due.promise(31, "NONE: there is none such.");
        RainShares x = Due.valley(10);
        x.cloud(0, 0);
        Due.is("none yet", x.trace(0), Due.NONE);
        x.voice(0, TELLS, 3);
        for (int i : new int[] {-1, 4, 39, 40, 41, MIN, MAX}) {
            Due.is("i " + i, x.trace(i), Due.NONE);
        }
    }
}
