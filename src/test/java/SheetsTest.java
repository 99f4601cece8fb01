/** Promises 32 to 36, and what the Terms tell of SHEETS. */
public final class SheetsTest {
    private static final int MIN = Integer.MIN_VALUE;
    private static final int MAX = Integer.MAX_VALUE;

    public static void main(String[] args) {
        fourSheets();
        atMostFortyNumbers();
        missingAtFirst();
        sheet();
        sheetBeyond();
        sheetState();
        put();
        putBeyondSheet();
        putNone();
        putBeyondNumber();
        move();
        moveOntoItself();
        moveBeyondSheet();
        moveNone();
        moveKind();
        moveBeyond();
        shares();
        sharesUpTo();
        sharesBeyond();
        sharesNone();
        judge();
        judgeLacks();
        judgeBeyond();
        judgeNone();
        Due.end();
    }

    private static void fourSheets() {
        Due.term("SHEETS 0 .. 3 are rows of 8, 16, 32 bits");
        RainShares x = Due.valley(10);
        for (int s = 0; s < 4; s++) {
            Due.is("sheet " + s, x.sheet(s, s == 0 ? 8 : s == 1 ? 16 : 32, 1), 1);
            x.put(s, 0, 70 + s);
        }
        for (int s = 0; s < 4; s++) {
            x.change(0, 1, 70 + s);
            Due.is("its own number, sheet " + s, x.judge(s), -1);
        }
        Due.is("sheet 4", x.sheet(4, 8, 1), Due.BEYOND);
    }

    private static void atMostFortyNumbers() {
        Due.term("at most 40 numbers");
        for (int bits = 8; bits <= 32; bits *= 2) {
            RainShares x = new RainShares();
            Due.is("40", x.sheet(0, bits, 40), 1);
            Due.is("the first", x.put(0, 0, 1), 1);
            Due.is("the last", x.put(0, 39, 1), 1);
            Due.is("none behind it", x.put(0, 40, 1), Due.BEYOND);
            Due.is("all of them move", x.move(0, 0, 0, 0, 40), 40);
            Due.is("41", x.sheet(0, bits, 41), Due.BEYOND);
            Due.is("40 stay", x.put(0, 39, 1), 1);
            Due.is("0", x.sheet(0, bits, 0), 1);
            Due.is("none", x.put(0, 0, 1), Due.BEYOND);
        }
    }

    private static void missingAtFirst() {
        Due.term("or missing (as at first).");
        RainShares x = new RainShares();
        for (int s = 0; s < 4; s++) {
            Due.is("put", x.put(s, 0, 0), Due.NONE);
            Due.is("shares", x.shares(s), Due.NONE);
        }
    }

    private static void sheet() {
        Due.promise(32, "A SHEET has n numbers, all 0, of so many bits (8, 16, 32; 0: it is missing, n doesn't matter): 1.");
        RainShares x = Due.valley(7, 8);
        Due.is("8", x.sheet(0, 8, 2), 1);
        Due.is("16", x.sheet(1, 16, 2), 1);
        Due.is("32", x.sheet(2, 32, 2), 1);
        Due.is("no numbers", x.sheet(3, 32, 0), 1);
        Due.is("all 0", x.judge(2), -1);
        x.put(1, 0, 5);
        x.put(1, 1, 6);
        Due.is("laid anew", x.sheet(1, 8, 2), 1);
        Due.is("all 0", x.judge(1), -1);
        for (int n : new int[] {0, 1, 40, 41, -1, MIN, MAX}) {
            x.sheet(1, 8, 2);
            Due.is("missing, n " + n, x.sheet(1, 0, n), 1);
            Due.is("missing then", x.put(1, 0, 0), Due.NONE);
        }
        Due.is("missing once more", x.sheet(1, 0, 0), 1);
        x.sheet(1, 8, 2);
        Due.is("all 0 behind that", x.judge(1), -1);
    }

    private static void sheetBeyond() {
        Due.promise(32, "BEYOND.");
        RainShares x = new RainShares();
        Due.is("sheet", x.sheet(4, 8, 1), Due.BEYOND);
        Due.is("sheet", x.sheet(-1, 8, 1), Due.BEYOND);
        Due.is("sheet that would be missing", x.sheet(4, 0, 1), Due.BEYOND);
        for (int bits : new int[] {-8, 1, 7, 9, 15, 17, 24, 31, 33, 64, MIN, MAX}) {
            Due.is("bits " + bits, x.sheet(0, bits, 1), Due.BEYOND);
        }
        Due.is("n", x.sheet(0, 8, 41), Due.BEYOND);
        Due.is("n", x.sheet(0, 32, MAX), Due.BEYOND);
        Due.is("it stays missing", x.put(0, 0, 0), Due.NONE);
    }

    private static void sheetState() {
        Due.promise(32, "STATE: n is below 0 (ahead of BEYOND of n).");
        RainShares x = new RainShares();
        for (int bits = 8; bits <= 32; bits *= 2) {
            Due.is("n -1", x.sheet(0, bits, -1), Due.STATE);
            Due.is("n the least", x.sheet(0, bits, MIN), Due.STATE);
        }
        Due.is("it stays missing", x.put(0, 0, 0), Due.NONE);
        Due.is("told", x.told(3), 6);
        Due.is("no beyond", x.told(1), 0);
    }

    /** Whether a number put as v is just due, seen as ARREARS of a ROOF. */
    private static void putIs(int bits, int v, int due, boolean is) {
        RainShares x = Due.valley(10);
        x.sheet(0, bits, 1);
        Due.is("put " + v, x.put(0, 0, v), 1);
        x.change(0, 1, due);
        Due.is(v + " in " + bits + " bits against " + due, x.judge(0), is ? -1 : 0);
    }

    private static void put() {
        Due.promise(33, "Number i of a SHEET becomes v (its lowest bits): 1.");
        putIs(8, 127, 127, true);
        putIs(8, 256 + 7, 7, true);
        putIs(8, -249, 7, true);
        putIs(8, MIN + 9, 9, true);
        putIs(8, 128, 128, false);
        putIs(8, 255, 255, false);
        putIs(16, 256 + 7, 263, true);
        putIs(16, 9999, 9999, true);
        putIs(16, 65536 + 8, 8, true);
        putIs(16, MIN + 9, 9, true);
        putIs(32, 9999, 9999, true);
        putIs(32, 65536 + 9, 9, false);
        putIs(32, MIN + 9, 9, false);
        RainShares x = Due.valley(0, 0, 0);
        Due.lay(x, 0, 8, 4, 5, 6);
        x.put(0, 1, 9);
        sharesAre(x, 0, 4, 9, 6);
    }

    private static void putBeyondSheet() {
        Due.promise(33, "BEYOND: no such SHEET.");
        RainShares x = new RainShares();
        Due.is("sheet 4", x.put(4, 0, 0), Due.BEYOND);
        Due.is("sheet -1", x.put(-1, 0, 0), Due.BEYOND);
    }

    private static void putNone() {
        Due.promise(33, "NONE: it is missing.");
        RainShares x = new RainShares();
        Due.is("missing", x.put(0, 0, 0), Due.NONE);
        Due.is("ahead of its number", x.put(0, 99, 0), Due.NONE);
    }

    private static void putBeyondNumber() {
        Due.promise(33, "BEYOND: no such number.");
        RainShares x = new RainShares();
        x.sheet(0, 8, 3);
        Due.is("the last", x.put(0, 2, 0), 1);
        for (int i : new int[] {3, 4, 39, 40, -1, MIN, MAX}) {
            Due.is("number " + i, x.put(0, i, 0), Due.BEYOND);
        }
    }

    private static void sharesAre(RainShares x, int sheet, int... due) {
        Due.is("shares that became so", x.shares(sheet), due.length);
        for (int i = 0; i < due.length; i++) {
            Due.is("shares " + i, x.ofRoof(i, 0), due[i]);
        }
    }

    private static void move() {
        Due.promise(34, "n numbers of a SHEET, from number i on, come to another one");
        for (int bits = 8; bits <= 32; bits *= 2) {
            RainShares x = Due.valley(0, 0, 0, 0);
            Due.lay(x, 0, bits, 1, 2, 3, 4);
            Due.lay(x, 1, bits, 5, 6);
            Due.is("none", x.move(0, 0, 1, 0, 0), 0);
            sharesAre(x, 1, 5, 6);
            Due.is("one", x.move(0, 3, 1, 0, 1), 1);
            sharesAre(x, 1, 4, 6);
            Due.is("two", x.move(0, 1, 1, 0, 2), 2);
            sharesAre(x, 1, 2, 3);
            sharesAre(x, 0, 1, 2, 3, 4);
            Due.is("to its end", x.move(1, 0, 0, 2, 2), 2);
            sharesAre(x, 0, 1, 2, 2, 3);
        }
    }

    private static void moveOntoItself() {
        Due.promise(34, "(or the same), from its number j on, as they all were: n.");
        RainShares x = Due.valley(0, 0, 0, 0);
        Due.lay(x, 0, 16, 1, 2, 3, 4);
        Due.is("forth", x.move(0, 0, 0, 1, 3), 3);
        sharesAre(x, 0, 1, 1, 2, 3);
        Due.lay(x, 0, 16, 1, 2, 3, 4);
        Due.is("back", x.move(0, 1, 0, 0, 3), 3);
        sharesAre(x, 0, 2, 3, 4, 4);
        Due.is("where they are", x.move(0, 0, 0, 0, 4), 4);
        sharesAre(x, 0, 2, 3, 4, 4);
    }

    private static void moveBeyondSheet() {
        Due.promise(34, "BEYOND: no such SHEET.");
        RainShares x = new RainShares();
        x.sheet(0, 8, 2);
        Due.is("sheet 4", x.move(4, 0, 0, 0, 1), Due.BEYOND);
        Due.is("sheet -1", x.move(-1, 0, 0, 0, 1), Due.BEYOND);
        Due.is("other 4", x.move(0, 0, 4, 0, 1), Due.BEYOND);
        Due.is("other -1", x.move(0, 0, -1, 0, 1), Due.BEYOND);
    }

    private static void moveNone() {
        Due.promise(34, "NONE: one is missing.");
        RainShares x = new RainShares();
        x.sheet(0, 8, 2);
        Due.is("the first", x.move(3, 0, 0, 0, 1), Due.NONE);
        Due.is("the other", x.move(0, 0, 3, 0, 1), Due.NONE);
        Due.is("both", x.move(3, 0, 3, 0, 0), Due.NONE);
    }

    private static void moveKind() {
        Due.promise(34, "KIND: they are of unlike bits.");
        int[] bits = {8, 16, 32};
        for (int a = 0; a < 3; a++) {
            for (int b = 0; b < 3; b++) {
                RainShares x = new RainShares();
                x.sheet(0, bits[a], 2);
                x.sheet(1, bits[b], 2);
                Due.is(bits[a] + " to " + bits[b], x.move(0, 0, 1, 0, 2), a == b ? 2 : Due.KIND);
                Due.is("none of them", x.move(0, 0, 1, 0, 0), a == b ? 0 : Due.KIND);
            }
        }
    }

    private static void moveBeyond() {
        Due.promise(34, "BEYOND: n, i, or j is below 0, or they don't stand there.");
        RainShares x = Due.valley(0, 0, 0, 0);
        Due.lay(x, 0, 8, 1, 2, 3, 4);
        Due.lay(x, 1, 8, 5, 6);
        Due.is("n", x.move(0, 0, 1, 0, -1), Due.BEYOND);
        Due.is("i", x.move(0, -1, 1, 0, 1), Due.BEYOND);
        Due.is("j", x.move(0, 0, 1, -1, 1), Due.BEYOND);
        Due.is("i, with none to move", x.move(0, -1, 1, 0, 0), Due.BEYOND);
        Due.is("j, with none to move", x.move(0, 0, 1, -1, 0), Due.BEYOND);
        Due.is("one behind the last", x.move(0, 3, 1, 0, 2), Due.BEYOND);
        Due.is("one behind the other's last", x.move(0, 0, 1, 1, 2), Due.BEYOND);
        Due.is("more than there are", x.move(0, 0, 0, 0, 5), Due.BEYOND);
        Due.is("i far", x.move(0, MAX, 1, 0, MAX), Due.BEYOND);
        Due.is("j far", x.move(0, 0, 1, MAX, 1), Due.BEYOND);
        Due.is("i far", x.move(0, MAX, 1, 0, 1), Due.BEYOND);
        Due.is("n far", x.move(0, 1, 1, 0, MAX), Due.BEYOND);
        Due.is("n far", x.move(0, 0, 1, 1, MAX), Due.BEYOND);
        Due.is("the least", x.move(0, MIN, 1, MIN, MIN), Due.BEYOND);
        Due.is("none behind the last", x.move(0, 4, 1, 2, 0), 0);
        Due.is("none further on", x.move(0, 5, 1, 0, 0), Due.BEYOND);
        Due.is("none further on", x.move(0, 0, 1, 3, 0), Due.BEYOND);
        sharesAre(x, 0, 1, 2, 3, 4);
        sharesAre(x, 1, 5, 6);
    }

    private static void shares() {
        Due.promise(35, "Numbers of a SHEET become SHARES of ROOFS 0, 1, ..: how many,");
        RainShares x = Due.valley(10, 20, 30);
        Due.lay(x, 0, 8, 1, 0, 99);
        sharesAre(x, 0, 1, 0, 99);
        x.sheet(0, 8, 1);
        sharesAre(x, 0, 0);
        Due.is("those behind stay", x.ofRoof(2, 0), 99);
        x.sheet(0, 8, 0);
        Due.is("no numbers", x.shares(0), 0);
    }

    private static void sharesUpTo() {
        Due.promise(35, "up to the first that is not 0 to 99 (no ERROR then), or for which there is no ROOF.");
        RainShares x = Due.valley(10, 20, 30);
        Due.lay(x, 0, 32, 5, 100, 6);
        sharesAre(x, 0, 5);
        Due.is("100 does not", x.ofRoof(1, 0), 20);
        Due.is("nor one behind it", x.ofRoof(2, 0), 30);
        Due.lay(x, 0, 32, 7, 8, -1);
        sharesAre(x, 0, 7, 8);
        Due.is("-1 does not", x.ofRoof(2, 0), 30);
        Due.lay(x, 0, 32, 256);
        Due.is("the first one", x.shares(0), 0);
        Due.lay(x, 0, 32, MIN);
        Due.is("the first one", x.shares(0), 0);
        Due.lay(x, 0, 8, 1, 2, 3, 4);
        sharesAre(x, 0, 1, 2, 3);
        Due.lay(x, 0, 8, 1, 2, 3, 100);
        sharesAre(x, 0, 1, 2, 3);
        Due.is("no errors", Due.errorsInAll(x), 0);
        RainShares none = new RainShares();
        none.sheet(0, 8, 2);
        Due.is("no roofs", none.shares(0), 0);
    }

    private static void sharesBeyond() {
        Due.promise(35, "BEYOND: no such SHEET.");
        Due.is("sheet 4", Due.valley(10).shares(4), Due.BEYOND);
        Due.is("sheet -1", Due.valley(10).shares(-1), Due.BEYOND);
    }

    private static void sharesNone() {
        Due.promise(35, "NONE: it is missing.");
        Due.is("missing", Due.valley(10).shares(3), Due.NONE);
    }

    private static void judge() {
        Due.promise(36, "Numbers of a SHEET are ARREARS of ROOFS 0, 1, ..: the first that isn't so");
        RainShares x = Due.valley(10, 20, 30);
        x.change(1, 1, 9999);
        x.change(2, 1, 7);
        Due.lay(x, 3, 16, 0, 9999, 7);
        Due.is("all are", x.judge(3), -1);
        x.put(3, 2, 8);
        Due.is("the last", x.judge(3), 2);
        x.put(3, 1, 9998);
        Due.is("the second ahead of the last", x.judge(3), 1);
        x.put(3, 0, 1);
        Due.is("the first", x.judge(3), 0);
    }

    private static void judgeLacks() {
        Due.promise(36, "(one that lacks, or is too many, too); -1: all are.");
        RainShares x = Due.valley(10, 20);
        x.sheet(0, 16, 2);
        Due.is("all are", x.judge(0), -1);
        x.sheet(0, 16, 1);
        Due.is("one lacks", x.judge(0), 1);
        x.sheet(0, 16, 0);
        Due.is("all lack", x.judge(0), 0);
        x.sheet(0, 16, 3);
        Due.is("one is too many", x.judge(0), 2);
        x.sheet(0, 16, 40);
        Due.is("many are too many", x.judge(0), 2);
        x.change(1, 1, 5);
        Due.is("an earlier one is first", x.judge(0), 1);
        RainShares none = new RainShares();
        none.sheet(0, 8, 0);
        Due.is("no roofs, no numbers", none.judge(0), -1);
        none.sheet(0, 8, 1);
        Due.is("no roofs, a number", none.judge(0), 0);
    }

    private static void judgeBeyond() {
        Due.promise(36, "BEYOND: no such SHEET.");
        Due.is("sheet 4", Due.valley(10).judge(4), Due.BEYOND);
        Due.is("sheet -1", Due.valley(10).judge(-1), Due.BEYOND);
    }

    private static void judgeNone() {
        Due.promise(36, "NONE: it is missing.");
        Due.is("missing", Due.valley(10).judge(3), Due.NONE);
        Due.is("missing, without roofs", new RainShares().judge(0), Due.NONE);
    }
}
