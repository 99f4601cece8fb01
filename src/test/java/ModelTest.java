/** Runs of calls by draws, on the program and on the model: their answers must be alike. */
public final class ModelTest {
    private static final int RUNS = 800;
    private static final int CALLS = 512;
    private static final int[] EDGES = {
        Integer.MIN_VALUE, Integer.MIN_VALUE + 1, -1000000001, -100, -2, -1, 0, 1, 2, 3, 4, 5, 6, 7, 8, 9,
        10, 20, 39, 40, 41, 50, 60, 61, 69, 70, 99, 100, 127, 128, 200, 255, 256, 999, 1000, 9999, 10000,
        32768, 65535, 65536, Integer.MAX_VALUE - 1, Integer.MAX_VALUE,
    };

    private static long state = 1;
    private static RainShares x;
    private static Model y;
    private static int[] answers = new int[40];

    public static void main(String[] args) {
        int runs = args.length > 0 ? Integer.parseInt(args[0]) : RUNS;
        for (int run = 0; run < runs; run++) {
            state = run * 7919L + 17;
            x = new RainShares();
            y = new Model();
            if (run % 8 != 0) {
                settle();
            }
            for (int call = 40; call < CALLS - 40; call++) {
                one(run, call, draw(100));
            }
        }
        for (int what = 0; what < answers.length; what++) {
            Due.holds("call " + what + " has answered with no error", answers[what] > runs / 100);
        }
        Due.end();
    }

    private static int draw(int n) {
        state = state * 6364136223846793005L + 1442695040888963407L;
        return (int) ((state >>> 33) % n);
    }

    /** Mostly low to high, at times any number. */
    private static int v(int low, int high) {
        int kind = draw(60);
        if (kind == 0) {
            return EDGES[draw(EDGES.length)];
        }
        if (kind == 1) {
            return draw(2) == 0 ? low - 1 : high + 1;
        }
        if (kind < 6) {
            return draw(2) == 0 ? low : high;
        }
        return low + draw(high - low + 1);
    }

    private static void both(String call, int got, Model.Call due) {
        Due.is(call, got, y.answer(due));
    }

    private static void settle() {
        int roofs = 1 + draw(6);
        for (int i = 0; i < roofs; i++) {
            int shares = draw(3) == 0 ? draw(100) : draw(30);
            both("roof", x.roof(shares), m -> m.roof(shares));
        }
        int clouds = draw(6);
        for (int i = 0; i < clouds; i++) {
            int km = draw(70);
            int roof = draw(roofs);
            both("cloud", x.cloud(km, roof), m -> m.cloud(km, roof));
        }
        if (draw(2) == 0) {
            text("settle", 0);
        }
        if (draw(2) == 0) {
            text("settle", 1);
        }
    }

    private static String level(int level, int use, int open) {
        String[] signs = {"|", "&", "<=>", "+-", "*/%"};
        if (level == 5) {
            int kind = draw(10);
            if (kind == 0 && open < 6) {
                return "!" + level(5, use, open + 1);
            }
            if (kind == 1 && open < 6) {
                return "(" + level(0, use, open + 1) + ")";
            }
            if (kind < 6) {
                return String.valueOf((use == 0 ? "wdm" : "srd").charAt(draw(3)));
            }
            return String.valueOf(draw(kind == 6 ? 10000 : 30));
        }
        StringBuilder s = new StringBuilder(level(level + 1, use, open));
        int most = level == 2 ? 1 : 3;
        for (int i = 0; i < most && draw(level > 2 ? 3 : 6) == 0; i++) {
            s.append(signs[level].charAt(draw(signs[level].length()))).append(level(level + 1, use, open));
        }
        return s.toString();
    }

    private static String spoilt(String text) {
        StringBuilder s = new StringBuilder(text);
        String any = "|&<=>!()+-*/%wdmsr0123456789 " + (char) 200;
        int at = draw(s.length() + 1);
        char c = any.charAt(draw(any.length()));
        int how = draw(3);
        if (how == 0 || at == s.length()) {
            s.insert(at, c);
        } else if (how == 1) {
            s.setCharAt(at, c);
        } else {
            s.deleteCharAt(at);
        }
        return s.toString();
    }

    private static void text(String label, int use) {
        String text = level(0, use, 0);
        text = draw(4) == 0 ? spoilt(text) : text;
        for (int from = 0; from < text.length(); from += 8) {
            int n = Math.min(8, text.length() - from);
            long word = -1;
            for (int i = n - 1; i >= 0; i--) {
                word = word << 8 | text.charAt(from + i);
            }
            long fed = word;
            both(label + " feed " + text, x.feed(fed, n), m -> m.feed(fed, n));
        }
        both(label + " text " + text, x.text(use), m -> m.text(use));
    }

    private static void one(int run, int call, int pick) {
        String label = "run " + run + " call " + call + ": ";
        int what = pick < 80 ? pick % 40 : 40 + pick % 5;
        int before = errorsInAll();
        if (what < 13) {
            first(label, what);
        } else if (what < 27) {
            second(label, what);
        } else if (what < 40) {
            third(label, what);
        } else {
            more(label, what);
        }
        if (what < 40 && errorsInAll() == before) {
            answers[what]++;
        }
    }

    private static int errorsInAll() {
        int sum = 0;
        for (int k = 1; k <= 5; k++) {
            sum += x.told(k);
        }
        return sum;
    }

    private static void first(String label, int what) {
        int a = v(0, 5);
        int b = v(0, 5);
        int c;
        switch (what) {
            case 0 -> { c = v(0, 99); both(label + "roof " + c, x.roof(c), m -> m.roof(c)); }
            case 1 -> both(label + "ofRoof " + a + " " + b, x.ofRoof(a, b), m -> m.ofRoof(a, b));
            case 2 -> {
                int w = v(0, 2);
                c = v(0, w == 1 ? draw(2) == 0 ? 9999 : 100 : 99);
                both(label + "change " + a + " " + w + " " + c, x.change(a, w, c), m -> m.change(a, w, c));
            }
            case 3 -> { c = v(0, 99 + draw(900)); both(label + "owe", x.owe(a, b, c), m -> m.owe(a, b, c)); }
            case 4 -> both(label + "owed " + a + " " + b, x.owed(a, b), m -> m.owed(a, b));
            case 5 -> { c = v(1, 1 + draw(200)); both(label + "pay " + a + " " + c, x.pay(a, c), m -> m.pay(a, c)); }
            case 6 -> {
                c = v(1, 1 + draw(20));
                both(label + "sell " + a + " " + b + " " + c, x.sell(a, b, c), m -> m.sell(a, b, c));
            }
            case 7 -> { c = v(0, 69); both(label + "cloud " + c + " " + a, x.cloud(c, a), m -> m.cloud(c, a)); }
            case 8 -> { c = v(0, 7); both(label + "ofCloud " + a + " " + c, x.ofCloud(a, c), m -> m.ofCloud(a, c)); }
            case 9 -> { c = v(0, 69); both(label + "become " + a + " " + c, x.become(a, c), m -> m.become(a, c)); }
            case 10 -> { c = v(0, 6); both(label + "as " + a + " " + c, x.as(a, c), m -> m.as(a, c)); }
            case 11 -> {
                int w = v(0, 1);
                c = w == 0 ? v(0, 5) : v(0, 30);
                both(label + "lead " + a + " " + w + " " + c, x.lead(a, w, c), m -> m.lead(a, w, c));
            }
            default -> {
                long word = "w+1d)(3|".charAt(draw(8)) | ((long) draw(256) << 8);
                c = v(1, 2);
                both(label + "feed " + word + " " + c, x.feed(word, c), m -> m.feed(word, c));
            }
        }
    }

    private static void second(String label, int what) {
        int a = v(0, 5);
        int n = v(0, draw(2) == 0 ? 60 : 14);
        int k = v(0, 1);
        int c;
        switch (what) {
            case 13 -> both(label + "text " + k, x.text(k), m -> m.text(k));
            case 14 -> { c = v(-5, 200); both(label + "law", x.law(k, c, n, a), m -> m.law(k, c, n, a)); }
            case 15 -> { c = v(1, 8); both(label + "days " + c, x.days(c), m -> m.days(c)); }
            case 16 -> { c = v(1, 8); both(label + "loose " + c, x.loose(c), m -> m.loose(c)); }
            case 17 -> both(label + "clear", x.clear(), m -> m.clear());
            case 18 -> both(label + "then " + n + " " + a + " " + k, x.then(n, a, k), m -> m.then(n, a, k));
            case 19 -> both(label + "drought " + a + " " + n, x.drought(a, n), m -> m.drought(a, n));
            case 20 -> { c = v(0, 10 + draw(500)); both(label + "when " + a + " " + c, x.when(a, c), m -> m.when(a, c)); }
            case 21 -> { c = v(0, 120); both(label + "sellers " + c + " " + k, x.sellers(c, k), m -> m.sellers(c, k)); }
            case 22 -> both(label + "clears", x.clears(), m -> m.clears());
            case 23 -> { c = v(0, 20); both(label + "patches " + c, x.patches(c), m -> m.patches(c)); }
            case 24 -> both(label + "trades", x.trades(), m -> m.trades());
            case 25 -> { c = v(0, 3); both(label + "fell " + c + " " + k, x.fell(c, k), m -> m.fell(c, k)); }
            default -> {
                c = v(1, 20);
                both(label + "gains " + a + " " + c + " " + n, x.gains(a, c, n), m -> m.gains(a, c, n));
            }
        }
    }

    private static void third(String label, int what) {
        int a = v(0, 3);
        int b = v(0, 3);
        int c;
        switch (what) {
            case 27 -> { c = v(-9, 9); both(label + "seed " + c, x.seed(c), m -> m.seed(c)); }
            case 28 -> {
                c = v(-99, 99);
                int cloud = v(0, 4);
                both(label + "voice " + cloud + " " + b + " " + c, x.voice(cloud, b, c), m -> m.voice(cloud, b, c));
            }
            case 29 -> { c = v(0, 9); both(label + "trace " + c, x.trace(c), m -> m.trace(c)); }
            case 30 -> {
                c = v(0, draw(8) == 0 ? 40 : 6);
                int bits = draw(40) == 0 ? v(0, 33) : 8 * new int[] {0, 1, 2, 4, 4}[draw(5)];
                both(label + "sheet " + a + " " + bits + " " + c, x.sheet(a, bits, c), m -> m.sheet(a, bits, c));
            }
            case 31 -> {
                int i = v(0, 5);
                c = v(0, draw(2) == 0 ? 99 : 300);
                both(label + "put " + a + " " + i + " " + c, x.put(a, i, c), m -> m.put(a, i, c));
            }
            case 32 -> {
                int i = v(0, 4);
                int j = v(0, 4);
                c = v(0, 5);
                both(label + "move", x.move(a, i, b, j, c), m -> m.move(a, i, b, j, c));
            }
            case 33 -> both(label + "shares " + a, x.shares(a), m -> m.shares(a));
            case 34 -> both(label + "judge " + a, x.judge(a), m -> m.judge(a));
            case 35 -> both(label + "image", x.image(), m -> m.image());
            case 36 -> both(label + "restore", x.restore(), m -> m.restore());
            case 37 -> { c = v(0, 500); both(label + "tell " + c, x.tell(c), m -> m.tell(c)); }
            case 38 -> { c = v(0, 10); both(label + "count " + c, x.count(c), m -> m.count(c)); }
            default -> { c = v(1, 5); both(label + "told " + c, x.told(c), m -> m.told(c)); }
        }
    }

    /** Calls in an order in which what they ask for is mostly so. */
    private static void more(String label, int what) {
        switch (what) {
            case 40 -> text(label, draw(2));
            case 41 -> tellWhatWillBe(label);
            case 42 -> measure(label, false);
            case 43 -> measure(label, true);
            default -> {
                int c = v(0, 5);
                both(label + "lead " + c, x.lead(c, 1, 0), m -> m.lead(c, 1, 0));
            }
        }
    }

    private static void tellWhatWillBe(String label) {
        both(label + "check", x.check(), m -> m.check());
        int many = draw(5);
        for (int n = 1; n <= many; n++) {
            int sum = 0;
            for (int r = 0; r < x.count(0); r++) {
                sum += x.then(n, r, 1);
            }
            int told = sum + (draw(12) == 0 ? 1 : 0);
            both(label + "tell", x.tell(told), m -> m.tell(told));
        }
        both(label + "check", x.check(), m -> m.check());
    }

    /** A sheet with what some clouds give (or with arrears), then fell (or judge). */
    private static void measure(String label, boolean arrears) {
        int sheet = draw(4);
        int bits = new int[] {8, 16, 32}[draw(3)];
        int roofs = x.count(0);
        both(label + "sheet", x.sheet(sheet, bits, roofs), m -> m.sheet(sheet, bits, roofs));
        int[] sums = new int[6];
        int set = draw(32);
        int sunday = x.count(2) % 7 == 6 ? x.count(6) : -1;
        for (int c = 0; c < x.count(1); c++) {
            if ((set >> c & 1) == 1 && x.ofCloud(c, 5) == 0) {
                sums[sunday >= 0 ? sunday : x.ofCloud(c, 2)] += x.ofCloud(c, 6);
            }
        }
        for (int r = 0; r < roofs; r++) {
            int at = r;
            int v = arrears ? x.ofRoof(r, 1) : sums[r];
            both(label + "put", x.put(sheet, at, v), m -> m.put(sheet, at, v));
        }
        if (arrears) {
            both(label + "judge", x.judge(sheet), m -> m.judge(sheet));
        } else {
            both(label + "fell", x.fell(sheet, 0), m -> m.fell(sheet, 0));
            both(label + "fell", x.fell(sheet, 1), m -> m.fell(sheet, 1));
        }
    }
}
