/**
 * Rain by subscription: a valley shares its clouds. What each call must do is told in
 * ../shared/DOC.md; the words in capitals here are that document's.
 *
 * <p>All rows are made in the constructors and used again: no call makes an object.
 */
public final class RainShares {
    private static final int LOW = -1000000000;
    private static final int BEYOND = 1;
    private static final int NONE = 2;
    private static final int STATE = 3;
    private static final int FULL = 4;
    private static final int KIND = 5;

    private static final int MOST_ROOFS = 6;
    private static final int MOST_CLOUDS = 5;
    private static final int MOST_SHARES = 99;
    private static final int MOST_ARREARS = 9999;
    private static final int MOST_GOT = 99999;
    private static final int MOST_RANK = 99;
    private static final int MOST_OWED = 999;
    private static final int MOST_WEAR = 99;
    private static final int LAST_DAY = 9999;
    private static final int MOST_BYTES = 50;
    private static final int MOST_WAITING = 20;
    private static final int FARTHEST = 60;
    private static final int SHEETS = 4;
    private static final int MOST_NUMBERS = 40;
    private static final int MOST_TRACED = 40;

    private static final int CLOUD = 0;
    private static final int PATCHED = 1;
    private static final int THUNDER = 2;
    private static final int LEASED = 3;
    private static final int WANDERING = 4;
    private static final int BLIND = 5;
    private static final int HAIL = 6;
    private static final int KINDS = 7;
    /** The KIND above each KIND; above CLOUD there is none. */
    private static final int[] ABOVE = {-1, CLOUD, CLOUD, CLOUD, PATCHED, THUNDER, LEASED};

    private static final int DROPS = 0;
    private static final int PRICE = 1;
    private static final int USES = 2;
    private static final int NAMES_OF_A_USE = 3;
    /** The NAMES of USE 0, then those of USE 1. */
    private static final char[] NAMES = {'w', 'd', 'm', 's', 'r', 'd'};

    private final Valley now = new Valley();
    /** What is only thought is worked out here. */
    private final Valley thought = new Valley();
    private final Valley kept = new Valley();
    private int images = 0;
    private final Reader reader = new Reader();
    private final Voices voices = new Voices();
    private final Sheet[] sheets = new Sheet[SHEETS];
    /** How many acts have answered LOW - 1, LOW - 2, ..; the first number is not used. */
    private final int[] errors = new int[KIND + 1];

    public RainShares() {
        for (int i = 0; i < sheets.length; i++) {
            sheets[i] = new Sheet();
        }
    }

    // ---- roofs, clouds

    public int roof(int shares) {
        if (!within(shares, 0, MOST_SHARES)) {
            return error(BEYOND);
        }
        if (now.roofs.many >= MOST_ROOFS) {
            return error(FULL);
        }
        return now.roofs.add(shares);
    }

    public int ofRoof(int roof, int what) {
        if (!now.roofs.has(roof)) {
            return error(BEYOND);
        }
        switch (what) {
            case 0:
                return now.roofs.shares[roof];
            case 1:
                return now.roofs.arrears[roof];
            case 2:
                return now.roofs.got[roof];
            case 3:
                return now.roofs.rank[roof];
            case 4:
                return now.clouds.setOver(roof);
            case 5:
                return now.roofs.owedToAll(roof);
            default:
                return error(BEYOND);
        }
    }

    public int change(int roof, int what, int v) {
        if (!now.roofs.has(roof)) {
            return error(BEYOND);
        }
        switch (what) {
            case 0:
                return replace(now.roofs.shares, roof, v, MOST_SHARES);
            case 1:
                return replace(now.roofs.arrears, roof, v, MOST_ARREARS);
            case 2:
                return replace(now.roofs.rank, roof, v, MOST_RANK);
            default:
                return error(BEYOND);
        }
    }

    public int owe(int roof, int other, int v) {
        if (!now.roofs.areTwo(roof, other)) {
            return error(BEYOND);
        }
        return replace(now.roofs.owed[roof], other, v, MOST_OWED);
    }

    public int owed(int roof, int other) {
        if (!now.roofs.areTwo(roof, other)) {
            return error(BEYOND);
        }
        return now.roofs.owed[roof][other];
    }

    public int pay(int roof, int v) {
        if (!now.roofs.has(roof) || !within(v, 1, MOST_ARREARS)) {
            return error(BEYOND);
        }
        if (now.roofs.arrears[roof] < v) {
            return error(STATE);
        }
        now.roofs.arrears[roof] -= v;
        return now.roofs.arrears[roof];
    }

    public int sell(int roof, int other, int v) {
        if (!now.roofs.areTwo(roof, other) || !within(v, 1, MOST_SHARES)) {
            return error(BEYOND);
        }
        int[] shares = now.roofs.shares;
        if (shares[roof] < v || shares[other] + v > MOST_SHARES) {
            return error(STATE);
        }
        shares[roof] -= v;
        shares[other] += v;
        return shares[roof];
    }

    public int cloud(int km, int roof) {
        if (!isKindAndM(km) || !now.roofs.has(roof)) {
            return error(BEYOND);
        }
        if (now.clouds.many >= MOST_CLOUDS) {
            return error(FULL);
        }
        return now.clouds.add(km, roof);
    }

    public int ofCloud(int cloud, int what) {
        if (!now.clouds.has(cloud)) {
            return error(BEYOND);
        }
        switch (what) {
            case 0:
                return now.clouds.kind[cloud];
            case 1:
                return now.clouds.m[cloud];
            case 2:
                return now.clouds.over[cloud];
            case 3:
                return now.clouds.wear[cloud];
            case 4:
                return now.clouds.lasting(cloud);
            case 5:
                return now.clouds.isSpent(cloud) ? 1 : 0;
            case 6:
                return now.dropsOn(cloud, now.clouds.over[cloud]);
            case 7:
                return now.nextOver(cloud);
            default:
                return error(BEYOND);
        }
    }

    public int become(int cloud, int km) {
        if (!now.clouds.has(cloud) || !isKindAndM(km)) {
            return error(BEYOND);
        }
        int was = now.clouds.kind[cloud];
        now.clouds.setKind(cloud, km);
        return was;
    }

    public int as(int cloud, int kind) {
        if (!now.clouds.has(cloud) || !within(kind, 0, KINDS - 1)) {
            return error(BEYOND);
        }
        if (!now.clouds.isOf(cloud, kind)) {
            return error(KIND);
        }
        return now.clouds.m[cloud];
    }

    public int lead(int cloud, int what, int v) {
        if (!now.clouds.has(cloud)) {
            return error(BEYOND);
        }
        switch (what) {
            case 0:
                return replace(now.clouds.over, cloud, v, now.roofs.many - 1);
            case 1:
                return replace(now.clouds.wear, cloud, v, MOST_WEAR);
            default:
                return error(BEYOND);
        }
    }

    // ---- texts

    public int feed(long word, int n) {
        if (!within(n, 1, 8)) {
            return error(BEYOND);
        }
        if (now.tapeBytes + n > MOST_BYTES) {
            return error(FULL);
        }
        for (int i = 0; i < n; i++) {
            now.tape[now.tapeBytes] = (int) (word >>> (8 * i)) & 255;
            now.tapeBytes++;
        }
        return now.tapeBytes;
    }

    public int text(int use) {
        if (!within(use, 0, USES - 1)) {
            return error(BEYOND);
        }
        int fault = reader.read(now.tape, now.tapeBytes, use);
        now.tapeBytes = 0;
        if (fault >= 0) {
            return -10 - fault;
        }
        now.laws[use].take(reader.code, reader.size);
        return 1;
    }

    public int law(int use, int a, int b, int c) {
        if (!within(use, 0, USES - 1)) {
            return error(BEYOND);
        }
        return now.laws[use].given(a, b, c);
    }

    // ---- days

    public int days(int n) {
        if (!within(n, 1, FARTHEST)) {
            return error(BEYOND);
        }
        if (now.day + n > LAST_DAY) {
            return error(STATE);
        }
        now.passDays(n);
        return now.roofs.sum(now.roofs.got);
    }

    public int loose(int n) {
        if (!within(n, 1, 40)) {
            return error(BEYOND);
        }
        if (now.day + n > LAST_DAY) {
            return error(STATE);
        }
        for (int i = 0; i < n; i++) {
            now.scatter();
            now.passDays(1);
        }
        return now.roofs.sum(now.roofs.got);
    }

    public int clear() {
        return now.roofs.clearDebts();
    }

    // ---- what would be

    public int then(int n, int roof, int what) {
        if (!within(n, 0, FARTHEST) || !now.roofs.has(roof) || !within(what, 0, 1)) {
            return error(BEYOND);
        }
        thought.copyFrom(now);
        thought.passDays(n);
        return what == 0 ? thought.roofs.arrears[roof] : thought.roofs.got[roof];
    }

    public int drought(int roof, int n) {
        if (!now.roofs.has(roof) || !within(n, 1, FARTHEST)) {
            return error(BEYOND);
        }
        thought.copyFrom(now);
        int longest = 0;
        int dry = 0;
        for (int i = 0; i < n; i++) {
            thought.passDays(1);
            dry = thought.fallen[roof] == 0 ? dry + 1 : 0;
            longest = Math.max(longest, dry);
        }
        return longest;
    }

    public int when(int roof, int v) {
        if (!now.roofs.has(roof) || !within(v, 0, MOST_ARREARS)) {
            return error(BEYOND);
        }
        thought.copyFrom(now);
        for (int n = 0; n <= FARTHEST; n++) {
            if (thought.roofs.arrears[roof] >= v) {
                return n;
            }
            thought.passDays(1);
        }
        return error(NONE);
    }

    public int sellers(int v, int what) {
        if (!within(v, 0, 999) || !within(what, 0, 1)) {
            return error(BEYOND);
        }
        int set = now.roofs.bestSellers(v);
        if (set < 0) {
            return error(NONE);
        }
        return what == 0 ? set : now.roofs.sumOver(set, now.roofs.shares);
    }

    public int clears() {
        thought.roofs.copyFrom(now.roofs);
        return thought.roofs.clearDebts();
    }

    public int patches(int n) {
        if (!within(n, 0, 20)) {
            return error(BEYOND);
        }
        if (now.clouds.many == 0) {
            return error(NONE);
        }
        Clouds patched = thought.clouds;
        patched.copyFrom(now.clouds);
        for (int i = 0; i < n; i++) {
            int weakest = patched.weakest();
            patched.wear[weakest] = Math.max(0, patched.wear[weakest] - 5);
        }
        return patched.daysLeft(patched.weakest());
    }

    public int trades() {
        return now.roofs.tradingPairs();
    }

    public int fell(int sheet, int what) {
        if (!isSheet(sheet) || !within(what, 0, 1)) {
            return error(BEYOND);
        }
        Sheet measured = sheets[sheet];
        if (measured.isMissing() || measured.size != now.roofs.many) {
            return error(NONE);
        }
        now.aim();
        int sets = 0;
        int least = -1;
        for (int set = 0; set < 1 << now.clouds.many; set++) {
            if (now.wouldGive(set, measured.numbers)) {
                sets++;
                least = least < 0 ? set : least;
            }
        }
        if (what == 0) {
            return sets;
        }
        return least < 0 ? error(NONE) : least;
    }

    public int gains(int roof, int v, int n) {
        if (!now.roofs.has(roof) || !within(v, 1, 20) || !within(n, 0, FARTHEST)) {
            return error(BEYOND);
        }
        return arrearsBehind(n, roof, 0) - arrearsBehind(n, roof, v);
    }

    // ---- draws, voices, sheets, images, what is told

    public int seed(int v) {
        int was = now.z;
        now.z = v;
        return was;
    }

    public int voice(int cloud, int act, int x) {
        if (!now.clouds.has(cloud) || !within(act, 0, Voices.ACTS - 1)) {
            return error(BEYOND);
        }
        return voices.answer(now.clouds.kind[cloud], cloud, now.clouds.m[cloud], act, x);
    }

    public int trace(int i) {
        if (i < 0 || i >= voices.traced) {
            return error(NONE);
        }
        return voices.bodies[i];
    }

    public int sheet(int sheet, int bits, int n) {
        if (!isSheet(sheet) || bits != 0 && bits != 8 && bits != 16 && bits != 32) {
            return error(BEYOND);
        }
        if (bits != 0 && n < 0) {
            return error(STATE);
        }
        if (bits != 0 && n > MOST_NUMBERS) {
            return error(BEYOND);
        }
        sheets[sheet].lay(bits, bits == 0 ? 0 : n);
        return 1;
    }

    public int put(int sheet, int i, int v) {
        if (!isSheet(sheet)) {
            return error(BEYOND);
        }
        Sheet row = sheets[sheet];
        if (row.isMissing()) {
            return error(NONE);
        }
        if (i < 0 || i >= row.size) {
            return error(BEYOND);
        }
        row.numbers[i] = row.cutToBits(v);
        return 1;
    }

    public int move(int sheet, int i, int other, int j, int n) {
        if (!isSheet(sheet) || !isSheet(other)) {
            return error(BEYOND);
        }
        Sheet from = sheets[sheet];
        Sheet to = sheets[other];
        if (from.isMissing() || to.isMissing()) {
            return error(NONE);
        }
        if (from.bits != to.bits) {
            return error(KIND);
        }
        if (!from.holds(i, n) || !to.holds(j, n)) {
            return error(BEYOND);
        }
        System.arraycopy(from.numbers, i, to.numbers, j, n);
        return n;
    }

    public int shares(int sheet) {
        if (!isSheet(sheet)) {
            return error(BEYOND);
        }
        Sheet row = sheets[sheet];
        if (row.isMissing()) {
            return error(NONE);
        }
        int set = 0;
        while (set < row.size && set < now.roofs.many && within(row.numbers[set], 0, MOST_SHARES)) {
            now.roofs.shares[set] = row.numbers[set];
            set++;
        }
        return set;
    }

    public int judge(int sheet) {
        if (!isSheet(sheet)) {
            return error(BEYOND);
        }
        Sheet row = sheets[sheet];
        if (row.isMissing()) {
            return error(NONE);
        }
        int both = Math.min(row.size, now.roofs.many);
        for (int i = 0; i < both; i++) {
            if (row.numbers[i] != now.roofs.arrears[i]) {
                return i;
            }
        }
        return row.size == now.roofs.many ? -1 : both;
    }

    public int image() {
        kept.copyFrom(now);
        images++;
        return images;
    }

    public int restore() {
        if (images == 0) {
            return error(NONE);
        }
        now.copyFrom(kept);
        return now.day;
    }

    public int tell(int v) {
        if (now.waitingMany >= MOST_WAITING) {
            return error(FULL);
        }
        now.waiting[now.waitingMany] = v;
        now.waitingMany++;
        return now.waitingMany;
    }

    public int check() {
        int many = now.waitingMany;
        now.waitingMany = 0;
        thought.copyFrom(now);
        for (int i = 0; i < many; i++) {
            thought.passDays(1);
            if (thought.roofs.sum(thought.roofs.got) != now.waiting[i]) {
                return 1 + i;
            }
        }
        return 0;
    }

    public int count(int what) {
        switch (what) {
            case 0:
                return now.roofs.many;
            case 1:
                return now.clouds.many;
            case 2:
                return now.day;
            case 3:
                return now.roofs.sum(now.roofs.got);
            case 4:
                return now.roofs.sum(now.roofs.arrears);
            case 5:
                return now.clouds.spentMany();
            case 6:
                return now.roofs.mostInArrears();
            case 7:
                return now.tapeBytes;
            case 8:
                return now.waitingMany;
            case 9:
                return voices.traced;
            case 10:
                return now.z;
            default:
                return error(BEYOND);
        }
    }

    public int told(int k) {
        if (!within(k, BEYOND, KIND)) {
            return error(BEYOND);
        }
        return errors[k];
    }

    // ---- what several calls need

    private static boolean within(int v, int least, int most) {
        return v >= least && v <= most;
    }

    private static boolean isKindAndM(int km) {
        return within(km, 0, 10 * KINDS - 1);
    }

    private static boolean isSheet(int sheet) {
        return within(sheet, 0, SHEETS - 1);
    }

    private int error(int k) {
        errors[k]++;
        return LOW - k;
    }

    /** Number i of the row becomes v (0 to most): what it was. */
    private int replace(int[] row, int i, int v, int most) {
        if (!within(v, 0, most)) {
            return error(BEYOND);
        }
        int was = row[i];
        row[i] = v;
        return was;
    }

    private int arrearsBehind(int n, int roof, int more) {
        thought.copyFrom(now);
        int[] shares = thought.roofs.shares;
        shares[roof] = Math.min(MOST_SHARES, shares[roof] + more);
        thought.passDays(n);
        return thought.roofs.arrears[roof];
    }

    /** ROOFS, and what they have OWED to one another. */
    private static final class Roofs {
        int many = 0;
        final int[] shares = new int[MOST_ROOFS];
        final int[] arrears = new int[MOST_ROOFS];
        final int[] got = new int[MOST_ROOFS];
        final int[] rank = new int[MOST_ROOFS];
        /** Of each ROOF the row of what it has OWED to each other one. */
        final int[][] owed = new int[MOST_ROOFS][MOST_ROOFS];

        void copyFrom(Roofs that) {
            many = that.many;
            System.arraycopy(that.shares, 0, shares, 0, MOST_ROOFS);
            System.arraycopy(that.arrears, 0, arrears, 0, MOST_ROOFS);
            System.arraycopy(that.got, 0, got, 0, MOST_ROOFS);
            System.arraycopy(that.rank, 0, rank, 0, MOST_ROOFS);
            for (int a = 0; a < MOST_ROOFS; a++) {
                System.arraycopy(that.owed[a], 0, owed[a], 0, MOST_ROOFS);
            }
        }

        /**
         * The caller has seen that there is room. All else of a new ROOF is still 0: an IMAGE brings the
         * rows of the ROOFS that it lacks along.
         */
        int add(int sharesAtFirst) {
            shares[many] = sharesAtFirst;
            many++;
            return many - 1;
        }

        boolean has(int roof) {
            return roof >= 0 && roof < many;
        }

        int sharesOf(int roof) {
            return has(roof) ? shares[roof] : 0;
        }

        boolean areTwo(int roof, int other) {
            return has(roof) && has(other) && roof != other;
        }

        int sum(int[] row) {
            int sum = 0;
            for (int r = 0; r < many; r++) {
                sum += row[r];
            }
            return sum;
        }

        int sumOver(int set, int[] row) {
            int sum = 0;
            for (int r = 0; r < many; r++) {
                if ((set >> r & 1) == 1) {
                    sum += row[r];
                }
            }
            return sum;
        }

        int owedToAll(int roof) {
            return sum(owed[roof]);
        }

        /** -1 if there are no ROOFS. */
        int mostInArrears() {
            int most = many == 0 ? -1 : 0;
            for (int r = 1; r < many; r++) {
                if (arrears[r] > arrears[most]) {
                    most = r;
                }
            }
            return most;
        }

        /** The set that SELLERS names; -1 if all ROOFS together have fewer than v. */
        int bestSellers(int v) {
            int best = -1;
            for (int set = 0; set < 1 << many; set++) {
                if (sumOver(set, shares) >= v && (best < 0 || sellsRather(set, best))) {
                    best = set;
                }
            }
            return best;
        }

        private boolean sellsRather(int set, int other) {
            int more = Integer.bitCount(set) - Integer.bitCount(other);
            return more < 0 || more == 0 && sumOver(set, arrears) < sumOver(other, arrears);
        }

        int tradingPairs() {
            int pairs = 0;
            for (int a = 0; a < many; a++) {
                for (int b = 0; b < many; b++) {
                    if (rank[a] > rank[b] && shares[a] < shares[b]) {
                        pairs++;
                    }
                }
            }
            return pairs;
        }

        /** Clears as CLEARS: how much is less in all. */
        int clearDebts() {
            int cleared = 0;
            for (int a = 0; a < many; a++) {
                for (int b = a + 1; b < many; b++) {
                    cleared += clearPair(a, b);
                }
            }
            for (int a = 0; a < many; a++) {
                for (int b = a + 1; b < many; b++) {
                    for (int c = a + 1; c < many; c++) {
                        cleared += b == c ? 0 : clearRing(a, b, c);
                    }
                }
            }
            return cleared;
        }

        private int clearPair(int a, int b) {
            int least = Math.min(owed[a][b], owed[b][a]);
            owed[a][b] -= least;
            owed[b][a] -= least;
            return 2 * least;
        }

        private int clearRing(int a, int b, int c) {
            int least = Math.min(owed[a][b], Math.min(owed[b][c], owed[c][a]));
            owed[a][b] -= least;
            owed[b][c] -= least;
            owed[c][a] -= least;
            return 3 * least;
        }
    }

    /** CLOUDS, as far as they need to know nothing of DAYS, ROOFS and TEXTS. */
    private static final class Clouds {
        int many = 0;
        final int[] kind = new int[MOST_CLOUDS];
        final int[] m = new int[MOST_CLOUDS];
        final int[] over = new int[MOST_CLOUDS];
        final int[] wear = new int[MOST_CLOUDS];

        void copyFrom(Clouds that) {
            many = that.many;
            System.arraycopy(that.kind, 0, kind, 0, MOST_CLOUDS);
            System.arraycopy(that.m, 0, m, 0, MOST_CLOUDS);
            System.arraycopy(that.over, 0, over, 0, MOST_CLOUDS);
            System.arraycopy(that.wear, 0, wear, 0, MOST_CLOUDS);
        }

        /** The caller has seen that there is room. */
        int add(int km, int roof) {
            setKind(many, km);
            over[many] = roof;
            wear[many] = 0;
            many++;
            return many - 1;
        }

        void setKind(int cloud, int km) {
            kind[cloud] = km / 10;
            m[cloud] = km % 10;
        }

        boolean has(int cloud) {
            return cloud >= 0 && cloud < many;
        }

        boolean isOf(int cloud, int wanted) {
            int k = kind[cloud];
            for (int up = 0; up < KINDS && k != wanted && k > CLOUD && k < KINDS; up++) {
                k = ABOVE[k];
            }
            return k == wanted;
        }

        int lasting(int cloud) {
            switch (kind[cloud]) {
                case PATCHED:
                    return 20 + m[cloud];
                case WANDERING:
                    return 2 * (20 + m[cloud]);
                case THUNDER:
                case BLIND:
                    return 15;
                default:
                    return 20;
            }
        }

        boolean isSpent(int cloud) {
            return wear[cloud] >= lasting(cloud);
        }

        int spentMany() {
            int spent = 0;
            for (int c = 0; c < many; c++) {
                spent += isSpent(c) ? 1 : 0;
            }
            return spent;
        }

        int setOver(int roof) {
            int set = 0;
            for (int c = 0; c < many; c++) {
                if (over[c] == roof) {
                    set |= 1 << c;
                }
            }
            return set;
        }

        int daysLeft(int cloud) {
            return Math.max(0, lasting(cloud) - wear[cloud]);
        }

        /** The CLOUD with the fewest DAYS; the caller has seen that there are CLOUDS. */
        int weakest() {
            int weakest = 0;
            for (int c = 1; c < many; c++) {
                if (daysLeft(c) < daysLeft(weakest)) {
                    weakest = c;
                }
            }
            return weakest;
        }
    }

    /** All that an IMAGE keeps. */
    private static final class Valley {
        final Roofs roofs = new Roofs();
        final Clouds clouds = new Clouds();
        final Law[] laws = {new Law(12, 99), new Law(1, 9)};
        int day = 0;
        int z = 1;
        final int[] tape = new int[MOST_BYTES];
        int tapeBytes = 0;
        final int[] waiting = new int[MOST_WAITING];
        int waitingMany = 0;
        /** How much fell on each ROOF on the DAY that was the latest to pass. */
        final int[] fallen = new int[MOST_ROOFS];
        /** On which ROOF each CLOUD falls on this DAY (-1: it is SPENT), and how much; aim() tells it. */
        private final int[] onto = new int[MOST_CLOUDS];
        private final int[] drops = new int[MOST_CLOUDS];

        void copyFrom(Valley that) {
            roofs.copyFrom(that.roofs);
            clouds.copyFrom(that.clouds);
            for (int use = 0; use < USES; use++) {
                laws[use].take(that.laws[use].code, that.laws[use].size);
            }
            day = that.day;
            z = that.z;
            System.arraycopy(that.tape, 0, tape, 0, MOST_BYTES);
            tapeBytes = that.tapeBytes;
            System.arraycopy(that.waiting, 0, waiting, 0, MOST_WAITING);
            waitingMany = that.waitingMany;
        }

        /** What a CLOUD FALLS on a ROOF on this DAY, SPENT or not. */
        int dropsOn(int cloud, int roof) {
            int m = clouds.m[cloud];
            int wear = clouds.wear[cloud];
            int v = laws[DROPS].given(wear, day, m);
            switch (clouds.kind[cloud]) {
                case PATCHED:
                case WANDERING:
                    return Math.max(0, v - wear / 10);
                case THUNDER:
                case BLIND:
                    return v + day % 2 * m;
                case LEASED:
                    return Math.min(v, roofs.sharesOf(roof));
                case HAIL:
                    return Math.min(v, roofs.sharesOf(roof)) / 2;
                default:
                    return v;
            }
        }

        /** Where a CLOUD DRIFTS next. */
        int nextOver(int cloud) {
            int goal;
            switch (clouds.kind[cloud]) {
                case WANDERING:
                    goal = clouds.over[cloud] + 1 + clouds.m[cloud];
                    break;
                case LEASED:
                case HAIL:
                    goal = clouds.m[cloud];
                    break;
                case BLIND:
                    goal = day;
                    break;
                default:
                    goal = clouds.over[cloud] + 1;
                    break;
            }
            return rest(goal, roofs.many);
        }

        void passDays(int n) {
            for (int i = 0; i < n; i++) {
                aim();
                rain();
                charge();
                drift();
                day++;
            }
        }

        void aim() {
            int sundays = day % 7 == 6 ? roofs.mostInArrears() : -1;
            for (int c = 0; c < clouds.many; c++) {
                if (clouds.isSpent(c)) {
                    onto[c] = -1;
                    drops[c] = 0;
                } else {
                    onto[c] = sundays >= 0 ? sundays : clouds.over[c];
                    drops[c] = dropsOn(c, onto[c]);
                }
            }
        }

        private void rain() {
            for (int r = 0; r < MOST_ROOFS; r++) {
                fallen[r] = 0;
            }
            for (int c = 0; c < clouds.many; c++) {
                int roof = onto[c];
                if (roofs.has(roof)) {
                    fallen[roof] += drops[c];
                    roofs.got[roof] = Math.min(MOST_GOT, roofs.got[roof] + drops[c]);
                    clouds.wear[c] = Math.min(MOST_WEAR, clouds.wear[c] + 1);
                }
            }
        }

        private void charge() {
            for (int r = 0; r < roofs.many; r++) {
                int tooMuch = fallen[r] - roofs.shares[r];
                if (tooMuch > 0) {
                    int price = laws[PRICE].given(roofs.shares[r], roofs.rank[r], day);
                    roofs.arrears[r] = Math.min(MOST_ARREARS, roofs.arrears[r] + tooMuch * price);
                }
            }
        }

        private void drift() {
            for (int c = 0; c < clouds.many; c++) {
                clouds.over[c] = nextOver(c);
            }
        }

        /** Whether just these CLOUDS, none of them SPENT, give the numbers; aim() has been asked. */
        boolean wouldGive(int set, int[] numbers) {
            for (int c = 0; c < clouds.many; c++) {
                if ((set >> c & 1) == 1 && onto[c] < 0) {
                    return false;
                }
            }
            for (int r = 0; r < roofs.many; r++) {
                int sum = 0;
                for (int c = 0; c < clouds.many; c++) {
                    if ((set >> c & 1) == 1 && onto[c] == r) {
                        sum += drops[c];
                    }
                }
                if (sum != numbers[r]) {
                    return false;
                }
            }
            return true;
        }

        /** What two draws do ahead of a DAY by draws. */
        void scatter() {
            if (clouds.many > 0) {
                int cloud = rest(draw(), clouds.many);
                clouds.over[cloud] = rest(draw(), roofs.many);
            }
        }

        private int draw() {
            z = z * 1103515245 + 12345;
            return z >>> 8;
        }

        private static int rest(int v, int by) {
            return by > 0 ? v % by : 0;
        }
    }

    /** What a USE gives: by its TEXT, in the form in which Reader writes it, or without one. */
    private static final class Law {
        private final int without;
        private final int most;
        final int[] code = new int[MOST_BYTES];
        int size = 0;
        private final int[] stack = new int[MOST_BYTES];

        Law(int without, int most) {
            this.without = without;
            this.most = most;
        }

        void take(int[] newCode, int newSize) {
            System.arraycopy(newCode, 0, code, 0, MOST_BYTES);
            size = newSize;
        }

        int given(int a, int b, int c) {
            if (size == 0) {
                return without;
            }
            int top = 0;
            for (int i = 0; i < size; i++) {
                int item = code[i];
                if (item == Reader.NOT && top >= 1) {
                    stack[top - 1] = stack[top - 1] == 0 ? 1 : 0;
                } else if (item < Reader.LAST_NAME && top >= 2) {
                    top--;
                    stack[top - 1] = join(-item, stack[top - 1], stack[top]);
                } else if (top < MOST_BYTES) {
                    stack[top] = item >= 0 ? item : item == -1 ? a : item == -2 ? b : c;
                    top++;
                }
            }
            return Math.max(0, Math.min(most, stack[0]));
        }

        private static int join(int sign, int left, int right) {
            switch (sign) {
                case '|':
                    return left != 0 || right != 0 ? 1 : 0;
                case '&':
                    return left != 0 && right != 0 ? 1 : 0;
                case '<':
                    return left < right ? 1 : 0;
                case '=':
                    return left == right ? 1 : 0;
                case '>':
                    return left > right ? 1 : 0;
                case '+':
                    return left + right;
                case '-':
                    return left - right;
                case '*':
                    return left * right;
                case '/':
                    return right == 0 ? 0 : left / right;
                case '%':
                    return right == 0 ? 0 : left % right;
                default:
                    return 0;
            }
        }
    }

    /**
     * Reads TEXTS. The code that it writes has what is joined ahead of the sign that joins it: a
     * NUMBER as itself, the NAMES in order as -1, -2, -3, a sign as its byte below 0. No byte gives
     * more than one of these, so that a row as long as THE TAPE holds them.
     */
    private static final class Reader {
        static final int LAST_NAME = -NAMES_OF_A_USE;
        static final int NOT = -'!';
        private static final int COMPARED = 2;
        private static final int SINGLE = 5;
        private static final int MOST_OPEN = 5;
        private static final int MOST_DIGITS = 4;

        final int[] code = new int[MOST_BYTES];
        int size = 0;
        private final int[] tape = new int[MOST_BYTES];
        private int end = 0;
        private int at = 0;
        private int use = 0;
        /** At is the FAULT then, and nothing is read any more. */
        private boolean stuck = false;

        /** Writes the code of the tape's TEXT: -1, or the FAULT. */
        int read(int[] bytes, int many, int forUse) {
            System.arraycopy(bytes, 0, tape, 0, MOST_BYTES);
            end = many;
            at = 0;
            size = 0;
            use = forUse;
            stuck = false;
            readJoined(0, 0);
            return stuck || at < end ? at : -1;
        }

        /**
         * Reads a T (level 0), an A (1), a B (2), an S (3), a P (4) or a Q (5), in which so many of !
         * and ( are open.
         */
        private void readJoined(int level, int open) {
            if (level >= SINGLE) {
                readSingle(open);
                return;
            }
            readJoined(level + 1, open);
            for (int i = 0; i < MOST_BYTES && !stuck && joins(level, next()); i++) {
                int sign = next();
                at++;
                readJoined(level + 1, open);
                write(-sign);
                if (level == COMPARED) {
                    return;
                }
            }
        }

        private void readSingle(int open) {
            int sign = next();
            int name = nameOf(sign);
            if (isDigit(sign)) {
                readNumber();
            } else if (name >= 0) {
                at++;
                write(-1 - name);
            } else if (sign == '!' && open < MOST_OPEN) {
                at++;
                readSingle(open + 1);
                write(NOT);
            } else if (sign == '(' && open < MOST_OPEN) {
                at++;
                readJoined(0, open + 1);
                readClosing();
            } else {
                stuck = true;
            }
        }

        private void readClosing() {
            if (stuck || next() != ')') {
                stuck = true;
            } else {
                at++;
            }
        }

        private void readNumber() {
            int number = 0;
            for (int i = 0; i < MOST_DIGITS && isDigit(next()); i++) {
                number = 10 * number + next() - '0';
                at++;
            }
            write(number);
        }

        /** -1 behind the last byte. */
        private int next() {
            return at < end ? tape[at] : -1;
        }

        private void write(int item) {
            if (size < MOST_BYTES) {
                code[size] = item;
                size++;
            }
        }

        private static boolean isDigit(int sign) {
            return sign >= '0' && sign <= '9';
        }

        private int nameOf(int sign) {
            for (int i = 0; i < NAMES_OF_A_USE; i++) {
                if (NAMES[use * NAMES_OF_A_USE + i] == sign) {
                    return i;
                }
            }
            return -1;
        }

        private static boolean joins(int level, int sign) {
            switch (level) {
                case 0:
                    return sign == '|';
                case 1:
                    return sign == '&';
                case COMPARED:
                    return sign == '<' || sign == '=' || sign == '>';
                case 3:
                    return sign == '+' || sign == '-';
                default:
                    return sign == '*' || sign == '/' || sign == '%';
            }
        }
    }

    /** VOICES, and THE TRACE of the latest one. */
    private static final class Voices {
        static final int ACTS = 4;
        private static final int RAINS = 0;
        private static final int DRIFTS = 1;
        private static final int WEARS = 2;
        private static final int TELLS = 3;
        /** Of each KIND the numbers of its BODIES by acts; 0: it has none. */
        private static final int[] BODIES = {
            10, 11, 12, 13,
            0, 0, 20, 0,
            30, 0, 0, 0,
            0, 40, 0, 0,
            0, 0, 50, 51,
            0, 0, 0, 60,
            0, 70, 0, 0,
        };
        /** Far above what the BODIES need: none of them calls its own act but from a KIND above. */
        private static final int DEEPEST = 40;

        final int[] bodies = new int[MOST_TRACED];
        int traced = 0;
        private int kind = CLOUD;
        private int n = 0;
        private int m = 0;

        int answer(int ofKind, int number, int ofM, int act, int x) {
            kind = ofKind;
            n = number;
            m = ofM;
            traced = 0;
            return say(kind, act, x, 0);
        }

        /** The BODY of an act that the KIND has, or the next one above that has one. */
        private int say(int from, int act, int x, int depth) {
            if (from < CLOUD || from >= KINDS || depth > DEEPEST) {
                return 0;
            }
            int owner = from;
            for (int up = 0; up < KINDS && owner > CLOUD && BODIES[owner * ACTS + act] == 0; up++) {
                owner = ABOVE[owner];
            }
            int body = BODIES[owner * ACTS + act];
            note(body);
            return sayBody(body, ABOVE[owner], x, depth + 1);
        }

        private int sayBody(int body, int above, int x, int depth) {
            switch (body) {
                case 10:
                    return x + n;
                case 11:
                    return say(kind, RAINS, x, depth) * 2;
                case 12:
                    return x - m;
                case 13:
                    return say(kind, DRIFTS, x, depth) ^ say(kind, WEARS, x, depth);
                case 20:
                    return -say(above, WEARS, x, depth);
                case 30:
                    return say(above, RAINS, x, depth) * 3;
                case 40:
                    return say(above, DRIFTS, x, depth) - say(kind, WEARS, 1, depth);
                case 50:
                    return say(above, WEARS, x, depth) ^ n;
                case 51:
                    return say(kind, DRIFTS, x, depth) - say(above, TELLS, x, depth);
                case 60:
                    return say(above, TELLS, x, depth) - say(kind, RAINS, 2, depth);
                case 70:
                    return say(above, DRIFTS, x + 1, depth);
                default:
                    return 0;
            }
        }

        private void note(int body) {
            if (traced < MOST_TRACED) {
                bodies[traced] = body;
                traced++;
            }
        }
    }

    /** A row of numbers of 8, 16 or 32 bits; of 0 bits, if it is missing. */
    private static final class Sheet {
        int bits = 0;
        int size = 0;
        final int[] numbers = new int[MOST_NUMBERS];

        boolean isMissing() {
            return bits == 0;
        }

        void lay(int ofBits, int many) {
            bits = ofBits;
            size = many;
            for (int i = 0; i < MOST_NUMBERS; i++) {
                numbers[i] = 0;
            }
        }

        /** Numbers have a sign, as Java's own of 8, 16 and 32 bits. */
        int cutToBits(int v) {
            return bits == 8 ? (byte) v : bits == 16 ? (short) v : v;
        }

        boolean holds(int i, int n) {
            return i >= 0 && n >= 0 && i <= size && n <= size - i;
        }
    }
}
