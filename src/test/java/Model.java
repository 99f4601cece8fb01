import java.util.ArrayDeque;
import java.util.ArrayList;
import java.util.Deque;
import java.util.HashMap;
import java.util.List;
import java.util.Map;

/**
 * The document once more, written in another way than the program (KINDS are classes here, TEXTS
 * are trees, a FAULT comes from a machine with a stack), so that a slip in one of them shows.
 */
final class Model {
    static final class Stop extends RuntimeException {
        private static final long serialVersionUID = 1L;
        final int k;

        Stop(int k) {
            super(null, null, false, false);
            this.k = k;
        }
    }

    static final class Roof {
        int shares;
        int arrears;
        int got;
        int rank;
        Map<Integer, Integer> owed = new HashMap<>();

        int owedTo(int other) {
            return owed.getOrDefault(other, 0);
        }
    }

    static class Plain {
        int number;
        int m;
        int over;
        int wear;
        List<Integer> trace = new ArrayList<>();

        int kind() {
            return 0;
        }

        int lasts() {
            return 20;
        }

        int falls(int v, int day, int shares) {
            return v;
        }

        int drift(int day) {
            return over + 1;
        }

        int rains(int x) {
            trace.add(10);
            return x + number;
        }

        int drifts(int x) {
            trace.add(11);
            return rains(x) * 2;
        }

        int wears(int x) {
            trace.add(12);
            return x - m;
        }

        int tells(int x) {
            trace.add(13);
            return drifts(x) ^ wears(x);
        }
    }

    static class Patched extends Plain {
        @Override int kind() {
            return 1;
        }

        @Override int lasts() {
            return 20 + m;
        }

        @Override int falls(int v, int day, int shares) {
            int left = v - wear / 10;
            return left < 0 ? 0 : left;
        }

        @Override int wears(int x) {
            trace.add(20);
            return -super.wears(x);
        }
    }

    static class Thunder extends Plain {
        @Override int kind() {
            return 2;
        }

        @Override int lasts() {
            return 15;
        }

        @Override int falls(int v, int day, int shares) {
            return day % 2 == 1 ? v + m : v;
        }

        @Override int rains(int x) {
            trace.add(30);
            return super.rains(x) * 3;
        }
    }

    static class Leased extends Plain {
        @Override int kind() {
            return 3;
        }

        @Override int falls(int v, int day, int shares) {
            return v > shares ? shares : v;
        }

        @Override int drift(int day) {
            return m;
        }

        @Override int drifts(int x) {
            trace.add(40);
            return super.drifts(x) - wears(1);
        }
    }

    static final class Wandering extends Patched {
        @Override int kind() {
            return 4;
        }

        @Override int lasts() {
            return super.lasts() * 2;
        }

        @Override int drift(int day) {
            return over + 1 + m;
        }

        @Override int wears(int x) {
            trace.add(50);
            return super.wears(x) ^ number;
        }

        @Override int tells(int x) {
            trace.add(51);
            return drifts(x) - super.tells(x);
        }
    }

    static final class Blind extends Thunder {
        @Override int kind() {
            return 5;
        }

        @Override int drift(int day) {
            return day;
        }

        @Override int tells(int x) {
            trace.add(60);
            return super.tells(x) - rains(2);
        }
    }

    static final class Hail extends Leased {
        @Override int kind() {
            return 6;
        }

        @Override int falls(int v, int day, int shares) {
            return super.falls(v, day, shares) / 2;
        }

        @Override int drifts(int x) {
            trace.add(70);
            return super.drifts(x + 1);
        }
    }

    static Plain born(int kind) {
        return switch (kind) {
            case 1 -> new Patched();
            case 2 -> new Thunder();
            case 3 -> new Leased();
            case 4 -> new Wandering();
            case 5 -> new Blind();
            case 6 -> new Hail();
            default -> new Plain();
        };
    }

    static Class<?> classOf(int kind) {
        return born(kind).getClass();
    }

    // ---- the state

    private List<Roof> roofs = new ArrayList<>();
    private List<Plain> clouds = new ArrayList<>();
    private String[] texts = new String[2];
    private int day = 0;
    private int z = 1;
    private StringBuilder tape = new StringBuilder();
    private List<Integer> waiting = new ArrayList<>();
    private List<Integer> trace = new ArrayList<>();
    private final int[][] sheets = new int[4][];
    private final int[] bits = new int[4];
    private final int[] errors = new int[6];
    private Model image = null;
    private int images = 0;
    private int[] fallen = new int[6];

    private Model copy() {
        Model that = new Model();
        that.take(this);
        return that;
    }

    private void take(Model that) {
        roofs = new ArrayList<>();
        for (Roof r : that.roofs) {
            Roof c = new Roof();
            c.shares = r.shares;
            c.arrears = r.arrears;
            c.got = r.got;
            c.rank = r.rank;
            c.owed = new HashMap<>(r.owed);
            roofs.add(c);
        }
        clouds = new ArrayList<>();
        for (Plain p : that.clouds) {
            clouds.add(other(p, p.kind(), p.m));
        }
        texts = that.texts.clone();
        day = that.day;
        z = that.z;
        tape = new StringBuilder(that.tape);
        waiting = new ArrayList<>(that.waiting);
    }

    private static Plain other(Plain p, int kind, int m) {
        Plain q = born(kind);
        q.number = p.number;
        q.m = m;
        q.over = p.over;
        q.wear = p.wear;
        return q;
    }

    int answer(Call call) {
        try {
            return call.answer(this);
        } catch (Stop stop) {
            errors[stop.k]++;
            return -1000000000 - stop.k;
        }
    }

    interface Call {
        int answer(Model model);
    }

    private static void ask(boolean fine, int k) {
        if (!fine) {
            throw new Stop(k);
        }
    }

    private static boolean in(int v, int low, int high) {
        return low <= v && v <= high;
    }

    private Roof at(int roof) {
        ask(in(roof, 0, roofs.size() - 1), 1);
        return roofs.get(roof);
    }

    private Plain up(int cloud) {
        ask(in(cloud, 0, clouds.size() - 1), 1);
        return clouds.get(cloud);
    }

    private int gotOfAll() {
        return roofs.stream().mapToInt(r -> r.got).sum();
    }

    // ---- roofs, clouds

    int roof(int shares) {
        ask(in(shares, 0, 99), 1);
        ask(roofs.size() < 6, 4);
        Roof r = new Roof();
        r.shares = shares;
        roofs.add(r);
        return roofs.size() - 1;
    }

    int ofRoof(int roof, int what) {
        Roof r = at(roof);
        ask(in(what, 0, 5), 1);
        int over = 0;
        for (Plain c : clouds) {
            over += c.over == roof ? 1 << c.number : 0;
        }
        int owed = r.owed.values().stream().mapToInt(v -> v).sum();
        return new int[] {r.shares, r.arrears, r.got, r.rank, over, owed}[what];
    }

    int change(int roof, int what, int v) {
        Roof r = at(roof);
        ask(in(what, 0, 2), 1);
        ask(in(v, 0, what == 1 ? 9999 : 99), 1);
        int was = what == 0 ? r.shares : what == 1 ? r.arrears : r.rank;
        if (what == 0) {
            r.shares = v;
        } else if (what == 1) {
            r.arrears = v;
        } else {
            r.rank = v;
        }
        return was;
    }

    int owe(int roof, int other, int v) {
        int was = owed(roof, other);
        ask(in(v, 0, 999), 1);
        at(roof).owed.put(other, v);
        return was;
    }

    int owed(int roof, int other) {
        Roof r = at(roof);
        at(other);
        ask(roof != other, 1);
        return r.owedTo(other);
    }

    int pay(int roof, int v) {
        Roof r = at(roof);
        ask(in(v, 1, 9999), 1);
        ask(r.arrears >= v, 3);
        return r.arrears -= v;
    }

    int sell(int roof, int other, int v) {
        owed(roof, other);
        ask(in(v, 1, 99), 1);
        ask(at(roof).shares >= v && at(other).shares + v <= 99, 3);
        at(other).shares += v;
        return at(roof).shares -= v;
    }

    int cloud(int km, int roof) {
        ask(in(km, 0, 69), 1);
        at(roof);
        ask(clouds.size() < 5, 4);
        Plain c = born(km / 10);
        c.number = clouds.size();
        c.m = km % 10;
        c.over = roof;
        clouds.add(c);
        return c.number;
    }

    int ofCloud(int cloud, int what) {
        Plain c = up(cloud);
        ask(in(what, 0, 7), 1);
        return new int[] {c.kind(), c.m, c.over, c.wear, c.lasts(), c.wear >= c.lasts() ? 1 : 0,
            falls(c, c.over), c.drift(day) % roofs.size()}[what];
    }

    private int falls(Plain c, int roof) {
        return c.falls(law(0, c.wear, day, c.m), day, roofs.get(roof).shares);
    }

    int become(int cloud, int km) {
        Plain c = up(cloud);
        ask(in(km, 0, 69), 1);
        clouds.set(cloud, other(c, km / 10, km % 10));
        return c.kind();
    }

    int as(int cloud, int kind) {
        Plain c = up(cloud);
        ask(in(kind, 0, 6), 1);
        ask(classOf(kind).isInstance(c), 5);
        return c.m;
    }

    int lead(int cloud, int what, int v) {
        Plain c = up(cloud);
        ask(in(what, 0, 1), 1);
        ask(in(v, 0, what == 0 ? roofs.size() - 1 : 99), 1);
        int was = what == 0 ? c.over : c.wear;
        if (what == 0) {
            c.over = v;
        } else {
            c.wear = v;
        }
        return was;
    }

    // ---- texts

    int feed(long word, int n) {
        ask(in(n, 1, 8), 1);
        ask(tape.length() + n <= 50, 4);
        long left = word;
        for (int i = 0; i < n; i++) {
            tape.append((char) (left & 0xFF));
            left >>= 8;
        }
        return tape.length();
    }

    int text(int use) {
        ask(in(use, 0, 1), 1);
        String read = tape.toString();
        tape = new StringBuilder();
        int fault = fault(read, use == 0 ? "wdm" : "srd");
        if (fault >= 0) {
            return -10 - fault;
        }
        texts[use] = read;
        return 1;
    }

    /** A machine that looks at each byte once, with a stack of what is open. */
    static int fault(String text, String names) {
        Deque<Character> open = new ArrayDeque<>();
        Deque<Boolean> compared = new ArrayDeque<>();
        compared.push(false);
        boolean wants = true;
        int digits = 0;
        for (int i = 0; i < text.length(); i++) {
            char c = text.charAt(i);
            boolean digit = in(c, '0', '9');
            if (wants && (c == '!' || c == '(')) {
                if (open.size() == 5) {
                    return i;
                }
                open.push(c);
                if (c == '(') {
                    compared.push(false);
                }
                continue;
            }
            if (wants && (digit || names.indexOf(c) >= 0)) {
                digits = digit ? 1 : 4;
                wants = false;
                closeNots(open);
                continue;
            }
            if (!wants && digit && digits < 4) {
                digits++;
                continue;
            }
            if (!wants && c == ')' && !open.isEmpty()) {
                open.pop();
                compared.pop();
                closeNots(open);
                digits = 4;
                continue;
            }
            if (!wants && "|&<=>+-*/%".indexOf(c) >= 0) {
                boolean compares = "<=>".indexOf(c) >= 0;
                if (compares && compared.peek()) {
                    return i;
                }
                if (compares || c == '|' || c == '&') {
                    compared.pop();
                    compared.push(compares);
                }
                wants = true;
                continue;
            }
            return i;
        }
        return wants || !open.isEmpty() ? text.length() : -1;
    }

    private static void closeNots(Deque<Character> open) {
        while (!open.isEmpty() && open.peek() == '!') {
            open.pop();
        }
    }

    int law(int use, int a, int b, int c) {
        ask(in(use, 0, 1), 1);
        if (texts[use] == null) {
            return use == 0 ? 12 : 1;
        }
        Map<Character, Integer> names = new HashMap<>();
        String order = use == 0 ? "wdm" : "srd";
        names.put(order.charAt(0), a);
        names.put(order.charAt(1), b);
        names.put(order.charAt(2), c);
        int v = worth(texts[use], names);
        int most = use == 0 ? 99 : 9;
        return v < 0 ? 0 : v > most ? most : v;
    }

    /** Splits the text at the last sign that binds least. */
    static int worth(String text, Map<Character, Integer> names) {
        for (String signs : List.of("|", "&", "<=>", "+-", "*/%")) {
            int at = lastOutside(text, signs);
            if (at >= 0) {
                return joined(text.charAt(at), worth(text.substring(0, at), names),
                    worth(text.substring(at + 1), names));
            }
        }
        if (text.charAt(0) == '!') {
            return worth(text.substring(1), names) == 0 ? 1 : 0;
        }
        if (text.charAt(0) == '(') {
            return worth(text.substring(1, text.length() - 1), names);
        }
        Integer name = names.get(text.charAt(0));
        return name != null ? name : Integer.parseInt(text);
    }

    private static int lastOutside(String text, String signs) {
        int deep = 0;
        for (int i = text.length() - 1; i >= 0; i--) {
            char c = text.charAt(i);
            deep += c == ')' ? 1 : c == '(' ? -1 : 0;
            if (deep == 0 && signs.indexOf(c) >= 0) {
                return i;
            }
        }
        return -1;
    }

    private static int joined(char sign, int a, int b) {
        return switch (sign) {
            case '|' -> a != 0 | b != 0 ? 1 : 0;
            case '&' -> a != 0 & b != 0 ? 1 : 0;
            case '<' -> a < b ? 1 : 0;
            case '=' -> a == b ? 1 : 0;
            case '>' -> a > b ? 1 : 0;
            case '+' -> (int) ((long) a + b);
            case '-' -> (int) ((long) a - b);
            case '*' -> (int) ((long) a * b);
            case '/' -> b == 0 ? 0 : (int) ((long) a / b);
            default -> b == 0 ? 0 : (int) ((long) a % b);
        };
    }

    // ---- days

    private int mostArrears() {
        int most = -1;
        for (int r = roofs.size() - 1; r >= 0; r--) {
            if (most < 0 || roofs.get(r).arrears >= roofs.get(most).arrears) {
                most = r;
            }
        }
        return most;
    }

    private void pass() {
        int goal = mostArrears();
        fallen = new int[6];
        for (Plain c : clouds) {
            if (c.wear < c.lasts()) {
                int onto = day % 7 == 6 ? goal : c.over;
                int drops = falls(c, onto);
                fallen[onto] += drops;
                Roof r = roofs.get(onto);
                r.got = r.got + drops > 99999 ? 99999 : r.got + drops;
                c.wear = c.wear == 99 ? 99 : c.wear + 1;
            }
        }
        for (int i = 0; i < roofs.size(); i++) {
            Roof r = roofs.get(i);
            if (fallen[i] > r.shares) {
                int more = r.arrears + (fallen[i] - r.shares) * law(1, r.shares, r.rank, day);
                r.arrears = more > 9999 ? 9999 : more;
            }
        }
        for (Plain c : clouds) {
            c.over = c.drift(day) % roofs.size();
        }
        day++;
    }

    private Model behind(int n) {
        Model that = copy();
        for (int i = 0; i < n; i++) {
            that.pass();
        }
        return that;
    }

    int days(int n) {
        ask(in(n, 1, 60), 1);
        ask(day + n <= 9999, 3);
        take(behind(n));
        return gotOfAll();
    }

    private int draw() {
        z = (int) (z * 1103515245L + 12345L);
        return (int) ((z & 0xFFFFFFFFL) >> 8);
    }

    int loose(int n) {
        ask(in(n, 1, 40), 1);
        ask(day + n <= 9999, 3);
        for (int i = 0; i < n; i++) {
            if (!clouds.isEmpty()) {
                Plain c = clouds.get(draw() % clouds.size());
                c.over = draw() % roofs.size();
            }
            pass();
        }
        return gotOfAll();
    }

    int clear() {
        int n = roofs.size();
        int sum = 0;
        for (int a = 0; a < n; a++) {
            for (int b = a + 1; b < n; b++) {
                sum += less(new int[] {a, b});
            }
        }
        for (int a = 0; a < n; a++) {
            for (int b = 0; b < n; b++) {
                for (int c = 0; c < n; c++) {
                    if (a < b && a < c && b != c) {
                        sum += less(new int[] {a, b, c});
                    }
                }
            }
        }
        return sum;
    }

    private int less(int[] ring) {
        int least = 9999;
        for (int i = 0; i < ring.length; i++) {
            least = Math.min(least, roofs.get(ring[i]).owedTo(ring[(i + 1) % ring.length]));
        }
        for (int i = 0; i < ring.length; i++) {
            int other = ring[(i + 1) % ring.length];
            roofs.get(ring[i]).owed.put(other, roofs.get(ring[i]).owedTo(other) - least);
        }
        return least * ring.length;
    }

    // ---- what would be

    int then(int n, int roof, int what) {
        ask(in(n, 0, 60), 1);
        at(roof);
        ask(in(what, 0, 1), 1);
        return behind(n).ofRoof(roof, what + 1);
    }

    int drought(int roof, int n) {
        at(roof);
        ask(in(n, 1, 60), 1);
        Model that = copy();
        StringBuilder row = new StringBuilder();
        for (int i = 0; i < n; i++) {
            that.pass();
            row.append(that.fallen[roof] == 0 ? 'o' : ' ');
        }
        int longest = 0;
        for (String dry : row.toString().split(" ")) {
            longest = Math.max(longest, dry.length());
        }
        return longest;
    }

    int when(int roof, int v) {
        at(roof);
        ask(in(v, 0, 9999), 1);
        for (int n = 0; n <= 60; n++) {
            if (behind(n).at(roof).arrears >= v) {
                return n;
            }
        }
        throw new Stop(2);
    }

    int sellers(int v, int what) {
        ask(in(v, 0, 999), 1);
        ask(in(what, 0, 1), 1);
        long best = Long.MAX_VALUE;
        int sold = 0;
        for (int set = 0; set < 1 << roofs.size(); set++) {
            int sum = 0;
            int arrears = 0;
            for (int r = 0; r < roofs.size(); r++) {
                sum += (set & 1 << r) != 0 ? roofs.get(r).shares : 0;
                arrears += (set & 1 << r) != 0 ? roofs.get(r).arrears : 0;
            }
            long order = Integer.bitCount(set) * 1000000000L + arrears * 1000L + set;
            if (sum >= v && order < best) {
                best = order;
                sold = sum;
            }
        }
        ask(best < Long.MAX_VALUE, 2);
        return what == 0 ? (int) (best % 1000) : sold;
    }

    int clears() {
        return copy().clear();
    }

    int patches(int n) {
        ask(in(n, 0, 20), 1);
        ask(!clouds.isEmpty(), 2);
        Model that = copy();
        for (int i = 0; i < n; i++) {
            int fewest = that.fewest();
            for (Plain c : that.clouds) {
                if (Math.max(0, c.lasts() - c.wear) == fewest) {
                    c.wear = Math.max(0, c.wear - 5);
                    break;
                }
            }
        }
        return that.fewest();
    }

    private int fewest() {
        return clouds.stream().mapToInt(c -> Math.max(0, c.lasts() - c.wear)).min().orElse(-1);
    }

    int trades() {
        int pairs = 0;
        for (int a = 0; a < roofs.size(); a++) {
            for (int b = 0; b < a; b++) {
                int ranks = Integer.compare(roofs.get(a).rank, roofs.get(b).rank);
                int shares = Integer.compare(roofs.get(a).shares, roofs.get(b).shares);
                pairs += ranks * shares < 0 ? 1 : 0;
            }
        }
        return pairs;
    }

    int fell(int sheet, int what) {
        ask(in(sheet, 0, 3), 1);
        ask(in(what, 0, 1), 1);
        ask(sheets[sheet] != null && sheets[sheet].length == roofs.size(), 2);
        List<Integer> sets = new ArrayList<>();
        for (int set = 0; set < 1 << clouds.size(); set++) {
            Model that = copy();
            boolean spent = false;
            for (int c = clouds.size() - 1; c >= 0; c--) {
                if ((set & 1 << c) == 0) {
                    that.clouds.remove(c);
                } else {
                    spent |= clouds.get(c).wear >= clouds.get(c).lasts();
                }
            }
            that.pass();
            boolean same = !spent;
            for (int r = 0; r < roofs.size(); r++) {
                same &= that.fallen[r] == sheets[sheet][r];
            }
            if (same) {
                sets.add(set);
            }
        }
        ask(what == 0 || !sets.isEmpty(), 2);
        return what == 0 ? sets.size() : sets.get(0);
    }

    int gains(int roof, int v, int n) {
        at(roof);
        ask(in(v, 1, 20), 1);
        ask(in(n, 0, 60), 1);
        Model with = copy();
        with.at(roof).shares = Math.min(99, with.at(roof).shares + v);
        return behind(n).at(roof).arrears - with.behind(n).at(roof).arrears;
    }

    // ---- draws, voices, sheets, images, what is told

    int seed(int v) {
        int was = z;
        z = v;
        return was;
    }

    int voice(int cloud, int act, int x) {
        Plain c = up(cloud);
        ask(in(act, 0, 3), 1);
        c.trace = new ArrayList<>();
        int v = switch (act) {
            case 0 -> c.rains(x);
            case 1 -> c.drifts(x);
            case 2 -> c.wears(x);
            default -> c.tells(x);
        };
        trace = c.trace;
        return v;
    }

    int trace(int i) {
        ask(in(i, 0, Math.min(40, trace.size()) - 1), 2);
        return trace.get(i);
    }

    int sheet(int sheet, int bits, int n) {
        ask(in(sheet, 0, 3), 1);
        ask(List.of(0, 8, 16, 32).contains(bits), 1);
        if (bits == 0) {
            sheets[sheet] = null;
            return 1;
        }
        ask(n >= 0, 3);
        ask(n <= 40, 1);
        sheets[sheet] = new int[n];
        this.bits[sheet] = bits;
        return 1;
    }

    int put(int sheet, int i, int v) {
        ask(in(sheet, 0, 3), 1);
        ask(sheets[sheet] != null, 2);
        ask(in(i, 0, sheets[sheet].length - 1), 1);
        int away = 32 - bits[sheet];
        sheets[sheet][i] = v << away >> away;
        return 1;
    }

    int move(int sheet, int i, int other, int j, int n) {
        ask(in(sheet, 0, 3), 1);
        ask(in(other, 0, 3), 1);
        ask(sheets[sheet] != null && sheets[other] != null, 2);
        ask(bits[sheet] == bits[other], 5);
        ask(n >= 0 && i >= 0 && j >= 0, 1);
        ask((long) i + n <= sheets[sheet].length && (long) j + n <= sheets[other].length, 1);
        int[] were = sheets[sheet].clone();
        for (int k = 0; k < n; k++) {
            sheets[other][j + k] = were[i + k];
        }
        return n;
    }

    int shares(int sheet) {
        ask(in(sheet, 0, 3), 1);
        ask(sheets[sheet] != null, 2);
        int n = 0;
        for (int v : sheets[sheet]) {
            if (!in(v, 0, 99) || n == roofs.size()) {
                break;
            }
            roofs.get(n++).shares = v;
        }
        return n;
    }

    int judge(int sheet) {
        ask(in(sheet, 0, 3), 1);
        ask(sheets[sheet] != null, 2);
        for (int i = 0; i < 41; i++) {
            boolean numbers = i < sheets[sheet].length;
            boolean roof = i < roofs.size();
            if (numbers != roof || numbers && sheets[sheet][i] != roofs.get(i).arrears) {
                return i;
            }
        }
        return -1;
    }

    int image() {
        image = copy();
        return ++images;
    }

    int restore() {
        ask(image != null, 2);
        take(image);
        return day;
    }

    int tell(int v) {
        ask(waiting.size() < 20, 4);
        waiting.add(v);
        return waiting.size();
    }

    int check() {
        List<Integer> waited = waiting;
        waiting = new ArrayList<>();
        for (int i = 0; i < waited.size(); i++) {
            if (behind(i + 1).gotOfAll() != waited.get(i)) {
                return 1 + i;
            }
        }
        return 0;
    }

    int count(int what) {
        ask(in(what, 0, 10), 1);
        int arrears = roofs.stream().mapToInt(r -> r.arrears).sum();
        int spent = (int) clouds.stream().filter(c -> c.wear >= c.lasts()).count();
        return new int[] {roofs.size(), clouds.size(), day, gotOfAll(), arrears, spent, mostArrears(),
            tape.length(), waiting.size(), Math.min(40, trace.size()), z}[what];
    }

    int told(int k) {
        ask(in(k, 1, 5), 1);
        return errors[k];
    }
}
