/** Promises 32 to 36. */
public final class SheetsTest {
    public static void main(String[] args) {
        sheet();
        put();
        move();
        shares();
        judge();
        Due.end();
    }

    private static void sheet() {
        RainShares x = new RainShares();
        Due.is("32: 8", x.sheet(0, 8, 40), 1);
        Due.is("32: 16", x.sheet(3, 16, 0), 1);
        Due.is("32: 32", x.sheet(1, 32, 1), 1);
        Due.is("32: missing", x.sheet(2, 0, -9), 1);
        Due.is("32: missing", x.sheet(2, 0, 99), 1);
        Due.is("32: sheet", x.sheet(4, 8, 1), Due.BEYOND);
        Due.is("32: sheet", x.sheet(-1, 8, 1), Due.BEYOND);
        Due.is("32: bits", x.sheet(0, 9, 1), Due.BEYOND);
        Due.is("32: bits", x.sheet(0, 64, 1), Due.BEYOND);
        Due.is("32: bits", x.sheet(0, -8, 1), Due.BEYOND);
        Due.is("32: bits ahead of n", x.sheet(0, 9, -1), Due.BEYOND);
        Due.is("32: n below 0", x.sheet(0, 8, -1), Due.STATE);
        Due.is("32: n above 40", x.sheet(0, 8, 41), Due.BEYOND);
        Due.is("32: it stays", x.put(0, 39, 1), 1);
        x.put(1, 0, 5);
        x.sheet(1, 32, 1);
        x.roof(7);
        x.shares(1);
        Due.is("32: all 0", x.ofRoof(0, 0), 0);
        x.sheet(1, 0, 0);
        Due.is("32: missing then", x.put(1, 0, 0), Due.NONE);
    }

    private static void put() {
        RainShares x = Due.valley(10);
        Due.is("33: missing", x.put(0, 99, 0), Due.NONE);
        Due.is("33: sheet", x.put(4, 0, 0), Due.BEYOND);
        x.sheet(0, 8, 1);
        x.sheet(1, 16, 1);
        x.sheet(2, 32, 1);
        Due.is("33: number", x.put(0, 1, 0), Due.BEYOND);
        Due.is("33: number", x.put(0, -1, 0), Due.BEYOND);
        Due.is("33: 1", x.put(0, 0, 256 + 7), 1);
        Due.is("33: 1", x.put(1, 0, 65536 + 8), 1);
        Due.is("33: 1", x.put(2, 0, 65536 + 9), 1);
        x.change(0, 1, 7);
        Due.is("33: the lowest 8 bits", x.judge(0), -1);
        x.change(0, 1, 8);
        Due.is("33: the lowest 16 bits", x.judge(1), -1);
        x.change(0, 1, 9);
        Due.is("33: all 32 bits", x.judge(2), 0);
        x.put(0, 0, 200);
        x.change(0, 1, 200);
        Due.is("33: a byte has a sign", x.judge(0), 0);
        x.put(1, 0, 200);
        Due.is("33: 16 bits hold it", x.judge(1), -1);
    }

    private static void move() {
        RainShares x = Due.valley(0, 0, 0, 0);
        x.sheet(0, 8, 4);
        x.sheet(1, 8, 2);
        x.sheet(2, 16, 4);
        for (int i = 0; i < 4; i++) {
            x.put(0, i, i + 1);
        }
        Due.is("34: sheet", x.move(4, 0, 0, 0, 0), Due.BEYOND);
        Due.is("34: other", x.move(0, 0, -1, 0, 0), Due.BEYOND);
        Due.is("34: missing", x.move(3, 0, 0, 0, -1), Due.NONE);
        Due.is("34: missing", x.move(0, 0, 3, 0, 0), Due.NONE);
        Due.is("34: unlike bits", x.move(0, -1, 2, 0, 0), Due.KIND);
        Due.is("34: n", x.move(0, 0, 1, 0, -1), Due.BEYOND);
        Due.is("34: i", x.move(0, -1, 1, 0, 1), Due.BEYOND);
        Due.is("34: j", x.move(0, 0, 1, -1, 1), Due.BEYOND);
        Due.is("34: they don't stand there", x.move(0, 3, 1, 0, 2), Due.BEYOND);
        Due.is("34: they don't stand there", x.move(0, 0, 1, 1, 2), Due.BEYOND);
        Due.is("34: far", x.move(0, Integer.MAX_VALUE, 1, 0, Integer.MAX_VALUE), Due.BEYOND);
        Due.is("34: far", x.move(0, 1, 1, 0, Integer.MAX_VALUE), Due.BEYOND);
        Due.is("34: none behind the last", x.move(0, 4, 1, 2, 0), 0);
        Due.is("34: beyond that", x.move(0, 5, 1, 0, 0), Due.BEYOND);
        Due.is("34: onto itself", x.move(0, 0, 0, 1, 3), 3);
        sharesAre(x, 0, 1, 1, 2, 3);
        Due.is("34: back", x.move(0, 1, 0, 0, 3), 3);
        sharesAre(x, 0, 1, 2, 3, 3);
        Due.is("34: to another", x.move(0, 1, 1, 0, 2), 2);
        sharesAre(x, 1, 2, 3);
    }

    private static void sharesAre(RainShares x, int sheet, int... due) {
        Due.is("35: how many", x.shares(sheet), due.length);
        for (int i = 0; i < due.length; i++) {
            Due.is("35: shares " + i, x.ofRoof(i, 0), due[i]);
        }
    }

    private static void shares() {
        RainShares x = Due.valley(10, 20, 30);
        Due.is("35: sheet", x.shares(4), Due.BEYOND);
        Due.is("35: sheet", x.shares(-1), Due.BEYOND);
        Due.is("35: missing", x.shares(0), Due.NONE);
        x.sheet(0, 32, 5);
        x.put(0, 0, 99);
        Due.is("35: up to the last roof", x.shares(0), 3);
        Due.is("35: become", x.ofRoof(0, 0), 99);
        Due.is("35: become", x.ofRoof(2, 0), 0);
        x.put(0, 0, 5);
        x.put(0, 1, 100);
        x.put(0, 2, 6);
        Due.is("35: up to 100", x.shares(0), 1);
        x.put(0, 1, -1);
        Due.is("35: up to -1", x.shares(0), 1);
        Due.is("35: ahead of it", x.ofRoof(0, 0), 5);
        Due.is("35: behind it", x.ofRoof(2, 0), 0);
        x.sheet(0, 8, 1);
        Due.is("35: fewer numbers", x.shares(0), 1);
        x.sheet(0, 8, 0);
        Due.is("35: no numbers", x.shares(0), 0);
        Due.is("35: no error", x.told(1) + x.told(2), 3);
    }

    private static void judge() {
        RainShares x = Due.valley(10, 20);
        Due.is("36: sheet", x.judge(4), Due.BEYOND);
        Due.is("36: sheet", x.judge(-1), Due.BEYOND);
        Due.is("36: missing", x.judge(3), Due.NONE);
        x.change(1, 1, 9999);
        x.sheet(3, 16, 2);
        Due.is("36: the second", x.judge(3), 1);
        x.put(3, 1, 9999);
        Due.is("36: all", x.judge(3), -1);
        x.put(3, 0, 1);
        Due.is("36: the first", x.judge(3), 0);
        x.sheet(3, 16, 1);
        Due.is("36: one lacks", x.judge(3), 1);
        x.sheet(3, 16, 3);
        x.put(3, 1, 9999);
        Due.is("36: one is too many", x.judge(3), 2);
        x.sheet(3, 16, 0);
        Due.is("36: none there", x.judge(3), 0);
        Due.is("36: no roofs, no numbers", emptyJudged(), -1);
    }

    private static int emptyJudged() {
        RainShares x = new RainShares();
        x.sheet(0, 8, 0);
        return x.judge(0);
    }
}
