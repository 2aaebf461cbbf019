/**
 * A press for sums: SHEETS of SUMS, LAWS of their PARTS, ways from SUMS to others, and SERIES.
 *
 * All rows are made in the constructor and used again, so that no call makes an object.
 * A call that is to change a SHEET first makes the new SUM aside (in made) and puts it
 * on the SHEET at the very end: a refused call has changed nothing.
 */
public final class PartitionPress {
    public static final int NONE = -1;
    public static final int RANGE = -2;
    public static final int KIND = -3;
    public static final int FULL = -4;

    private static final int SHEETS = 8;
    private static final int LAWS = 8;
    private static final int SERIES = 4;
    private static final int MOST = 400;
    private static final int MOST_FEW = 60;
    private static final int MOST_FILLED = 30;
    private static final int MOST_NOTED = 60;
    private static final int MOST_POWER = 20;

    private static final int ANY = 0;
    private static final int PARTS = 1;
    private static final int GAPS = 2;
    private static final int FEW = 3;
    private static final int OWN = 4;
    private static final int CORES = 5;

    /** sheet() tells ranks and cranks with this on top: below 0 stand the refusals. */
    private static final int ZERO_RANK = 1000;
    /** sheet() tells the PARTS from this number on. */
    private static final int FIRST_PART = 100;

    private final Sum[] sheets = new Sum[SHEETS];
    private final Law[] laws = new Law[LAWS];
    private final long[][] rows = new long[SERIES][MOST + 1];
    private final Notes notes = new Notes();
    private final Sum made = new Sum();
    private final Sum turned = new Sum();
    private final Counter counter = new Counter();
    private final Leads leads = new Leads();
    private final Abacus abacus = new Abacus();
    private final Filler filler = new Filler();
    private final Product product = new Product();

    public PartitionPress() {
        for (int s = 0; s < SHEETS; s++) {
            sheets[s] = new Sum();
        }
        for (int l = 0; l < LAWS; l++) {
            laws[l] = new Law();
        }
    }

    // ---- sheets

    public int part(int s, int v) {
        if (!isSheet(s) || v < 1) {
            return RANGE;
        }
        Sum sum = sheets[s];
        if (sum.size > 0 && v > sum.at(sum.size - 1)) {
            return RANGE;
        }
        if (v > MOST - sum.total) {
            return FULL;
        }
        made.take(sum);
        made.add(v);
        putOn(s);
        return sum.size;
    }

    public int clear(int s) {
        if (!isSheet(s)) {
            return RANGE;
        }
        int was = sheets[s].total;
        made.empty();
        putOn(s);
        return was;
    }

    public int copy(int s, int to) {
        if (!isSheet(s) || !isSheet(to)) {
            return RANGE;
        }
        made.take(sheets[s]);
        return putOn(to);
    }

    public int sheet(int s, int what) {
        if (!isSheet(s)) {
            return RANGE;
        }
        Sum sum = sheets[s];
        switch (what) {
            case 0:
                return sum.total;
            case 1:
                return sum.size;
            case 2:
                return sum.side();
            case 3:
                return sum.firstLessSize() + ZERO_RANK;
            case 4:
                return sum.crank() + ZERO_RANK;
            case 5:
                return sum.unlike();
            case 6:
                return sum.odd();
            case 7:
                return sum.corners();
            default:
                return what >= FIRST_PART && what - FIRST_PART < sum.size ? sum.at(what - FIRST_PART) : RANGE;
        }
    }

    public int hook(int s, int i, int j) {
        if (!isSheet(s) || i < 0 || j < 0 || j >= sheets[s].at(i)) {
            return RANGE;
        }
        return sheets[s].hookAt(i, j);
    }

    public int next(int s) {
        if (!isSheet(s)) {
            return RANGE;
        }
        if (sheets[s].at(0) <= 1) {
            return 0;
        }
        made.follow(sheets[s]);
        putOn(s);
        return 1;
    }

    public int undo() {
        if (notes.held == 0) {
            return NONE;
        }
        int s = notes.newestSheet();
        if (isSheet(s)) {
            sheets[s].take(notes.newestSum());
        }
        notes.drop();
        return notes.held;
    }

    // ---- laws

    public int law(int l, int kind, int a, int b, int c, int d) {
        if (!isLaw(l) || !Law.canBe(kind, a, b, c, d)) {
            return RANGE;
        }
        int was = laws[l].kind;
        laws[l].become(kind, a, b, c, d);
        counter.forget(laws[l]);
        return was;
    }

    public int clash(int l, int s) {
        if (!isLaw(l) || !isSheet(s)) {
            return RANGE;
        }
        return firstClash(laws[l], sheets[s]);
    }

    public long count(int l, int n) {
        if (!isLaw(l) || !laws[l].covers(n)) {
            return RANGE;
        }
        return counter.waysOf(laws[l], n);
    }

    public long rank(int l, int s) {
        if (!isLaw(l) || !isSheet(s) || !laws[l].isRanked() || !laws[l].covers(sheets[s].total)) {
            return RANGE;
        }
        if (firstClash(laws[l], sheets[s]) != NONE) {
            return KIND;
        }
        return counter.waysAheadOf(laws[l], sheets[s]);
    }

    public int tell(int l, int n, long rank, int s) {
        if (!isLaw(l) || !isSheet(s) || !laws[l].isRanked() || !laws[l].covers(n)) {
            return RANGE;
        }
        if (rank < 0 || rank >= counter.waysOf(laws[l], n)) {
            return RANGE;
        }
        counter.find(laws[l], n, rank, made);
        putOn(s);
        return sheets[s].size;
    }

    // ---- ways to others

    public int lead(int kind, int x, int s, int to) {
        return travel(kind, x, true, s, to);
    }

    public int back(int kind, int x, int s, int to) {
        return travel(kind, x, false, s, to);
    }

    public int core(int t, int s, int to) {
        if (!isHookLength(t) || !isSheet(s) || !isSheet(to)) {
            return RANGE;
        }
        abacus.set(sheets[s], t, sheets[s].size);
        abacus.pushDown();
        abacus.read(made);
        return putOn(to);
    }

    public int quotient(int t, int r, int s, int to) {
        if (!isHookLength(t) || r < 0 || r >= t || !isSheet(s) || !isSheet(to)) {
            return RANGE;
        }
        abacus.set(sheets[s], t, sheets[s].size);
        abacus.readRunner(r, made);
        return putOn(to);
    }

    public int join(int t, int s, int q) {
        if (!isHookLength(t) || !isSheet(s) || !isSheet(q) || q > SHEETS - t) {
            return RANGE;
        }
        if (s >= q && s < q + t) {
            return RANGE;
        }
        if (sheets[s].firstRowWithHook(t) != NONE) {
            return KIND;
        }
        int n = sheets[s].total;
        for (int r = 0; r < t; r++) {
            n += t * sheets[q + r].total;
        }
        if (n > MOST) {
            return FULL;
        }
        // No SUM of up to 400 has more PARTS: so each runner has beads enough for its quotient.
        abacus.set(sheets[s], t, MOST);
        for (int r = 0; r < t; r++) {
            abacus.lift(r, sheets[q + r]);
        }
        abacus.read(made);
        return putOn(s);
    }

    public int peel(int t, int s) {
        if (!isHookLength(t) || !isSheet(s)) {
            return RANGE;
        }
        abacus.set(sheets[s], t, sheets[s].size);
        if (!abacus.dropOne()) {
            return 0;
        }
        abacus.read(made);
        putOn(s);
        return 1;
    }

    public long fillings(int s) {
        if (!isSheet(s) || sheets[s].total > MOST_FILLED) {
            return RANGE;
        }
        return filler.waysToFill(sheets[s]);
    }

    public int filling(int s, long x, int v) {
        if (!isSheet(s) || sheets[s].total > MOST_FILLED || v < 1 || v > sheets[s].total) {
            return RANGE;
        }
        if (x < 0 || x >= filler.waysToFill(sheets[s])) {
            return RANGE;
        }
        return filler.rowOf(sheets[s], x, v);
    }

    public long heap(int kind, int n, int m, int r) {
        if (!isWithin(kind, 0, 1) || !isWithin(n, 0, MOST_FEW) || !isWithin(m, 1, 60) || !isWithin(r, 0, m - 1)) {
            return RANGE;
        }
        if (n == 0) {
            return r == 0 ? 1 : 0;
        }
        return kind == 0 ? counter.box.waysByRank(n, m, r) : counter.box.waysByCrank(n, m, r);
    }

    // ---- series

    public int one(int x) {
        if (!isSeries(x)) {
            return RANGE;
        }
        Rows.setOne(rows[x]);
        return 1;
    }

    public int factors(int x, int m, int r, int e) {
        if (!isSeries(x) || !isWithin(m, 1, MOST) || !isWithin(r, 0, m - 1)) {
            return RANGE;
        }
        if (!isWithin(e, -MOST_POWER, MOST_POWER)) {
            return RANGE;
        }
        product.takeFactors(rows[x], m, r, e);
        return 1;
    }

    public int signs(int x, int a, int b) {
        if (!isSeries(x) || !isWithin(a, 1, 100) || !isWithin(b, 1 - a, a - 1) || (a + b) % 2 != 0) {
            return RANGE;
        }
        Rows.setSigns(rows[x], a, b);
        return 1;
    }

    public int counts(int x, int l) {
        if (!isSeries(x) || !isLaw(l)) {
            return RANGE;
        }
        // The greatest n first: then one filling of the table serves all places.
        for (int n = MOST; n >= 0; n--) {
            rows[x][n] = laws[l].covers(n) ? counter.waysOf(laws[l], n) : 0;
        }
        return 1;
    }

    public int combine(int kind, int x, int y) {
        if (!isWithin(kind, 0, 3) || !isSeries(x) || !(kind == 3 ? isWithin(y, 0, MOST) : isSeries(y))) {
            return RANGE;
        }
        if (kind == 3) {
            Rows.moveUp(rows[x], y);
        } else if (kind == 0) {
            Rows.multiply(rows[x], rows[y]);
        } else {
            Rows.addTimes(rows[x], rows[y], kind == 1 ? 1 : -1);
        }
        return 1;
    }

    public long series(int x, int place) {
        return isSeries(x) && isWithin(place, 0, MOST) ? rows[x][place] : Long.MIN_VALUE;
    }

    public int same(int x, int y) {
        if (!isSeries(x) || !isSeries(y)) {
            return RANGE;
        }
        for (int i = 0; i <= MOST; i++) {
            if (rows[x][i] != rows[y][i]) {
                return i;
            }
        }
        return NONE;
    }

    public int told(int what) {
        if (isLaw(what)) {
            return laws[what].kind;
        }
        return what == LAWS ? notes.held : NONE;
    }

    // ---- what the calls share

    private static boolean isWithin(int v, int least, int most) {
        return v >= least && v <= most;
    }

    private static boolean isSheet(int s) {
        return isWithin(s, 0, SHEETS - 1);
    }

    private static boolean isLaw(int l) {
        return isWithin(l, 0, LAWS - 1);
    }

    private static boolean isSeries(int x) {
        return isWithin(x, 0, SERIES - 1);
    }

    private static boolean isHookLength(int t) {
        return isWithin(t, 2, 12);
    }

    /** An ACT: notes the SHEET and gives it the SUM that was made; tells its n. */
    private int putOn(int s) {
        notes.keep(s, sheets[s]);
        sheets[s].take(made);
        return sheets[s].total;
    }

    private int firstClash(Law law, Sum sum) {
        if (law.kind == OWN) {
            turned.turn(sum);
        }
        return law.firstClash(sum, turned);
    }

    private int travel(int kind, int x, boolean forth, int s, int to) {
        if (!Leads.canBe(kind, x) || !isSheet(s) || !isSheet(to)) {
            return RANGE;
        }
        if (!leads.leadFrom(kind, x, forth, sheets[s])) {
            return KIND;
        }
        leads.make(kind, x, forth, sheets[s], made);
        putOn(to);
        return sheets[to].size;
    }

    /** A SUM: a row of PARTS, none above the one ahead of it. */
    private static final class Sum {
        private final int[] parts = new int[MOST];
        private int size;
        private int total;

        void empty() {
            size = 0;
            total = 0;
        }

        void add(int v) {
            if (size < MOST) {
                parts[size] = v;
                size++;
                total += v;
            }
        }

        /** PART i, 0 where there is none. */
        int at(int i) {
            return i >= 0 && i < size ? parts[i] : 0;
        }

        void take(Sum other) {
            takeFirst(other, other.size);
        }

        void takeFirst(Sum other, int many) {
            empty();
            for (int i = 0; i < many; i++) {
                add(other.at(i));
            }
        }

        /** Becomes the other one TURNED. */
        void turn(Sum other) {
            empty();
            int height = other.size;
            for (int j = 0; j < other.at(0); j++) {
                while (height > 0 && other.at(height - 1) <= j) {
                    height--;
                }
                add(height);
            }
        }

        /** Becomes the SUM behind the other one by ORDER, which has a PART above 1. */
        void follow(Sum other) {
            int i = other.size - 1;
            while (i > 0 && other.at(i) == 1) {
                i--;
            }
            takeFirst(other, i);
            int v = Math.max(1, other.at(i) - 1);
            for (int rest = other.total - total; rest > 0; rest -= v) {
                add(Math.min(v, rest));
            }
        }

        int hookAt(int i, int j) {
            int leg = 0;
            for (int row = i + 1; row < size && parts[row] > j; row++) {
                leg++;
            }
            return at(i) - j + leg;
        }

        int firstRowWithHook(int length) {
            for (int i = 0; i < size; i++) {
                for (int j = 0; j < parts[i]; j++) {
                    if (hookAt(i, j) == length) {
                        return i;
                    }
                }
            }
            return NONE;
        }

        int side() {
            int side = 0;
            while (side < size && parts[side] > side) {
                side++;
            }
            return side;
        }

        int firstLessSize() {
            return at(0) - size;
        }

        int crank() {
            int ones = 0;
            for (int i = 0; i < size; i++) {
                ones += parts[i] == 1 ? 1 : 0;
            }
            if (ones == 0) {
                return at(0);
            }
            int above = 0;
            while (above < size && parts[above] > ones) {
                above++;
            }
            return above - ones;
        }

        int unlike() {
            int many = 0;
            for (int i = 0; i < size; i++) {
                many += at(i) > at(i + 1) ? 1 : 0;
            }
            return many;
        }

        /** HOOKS of one SQUARE: the last SQUARES of the lowest of like rows, so one for each of the unlike PARTS. */
        int corners() {
            return unlike();
        }

        int odd() {
            int many = 0;
            for (int i = 0; i < size; i++) {
                many += parts[i] % 2;
            }
            return many;
        }

        boolean isUnlike() {
            return unlike() == size;
        }

        boolean isOdd() {
            return odd() == size;
        }

        boolean isCorner(int row) {
            return at(row) > at(row + 1);
        }

        /** Takes the last SQUARE of a row away; it is a corner. */
        void shrink(int row) {
            if (row >= 0 && row < size) {
                parts[row]--;
                total--;
                if (parts[row] == 0) {
                    size--;
                }
            }
        }

        /** Takes back what shrink() did. */
        void grow(int row) {
            if (row == size) {
                add(1);
            } else if (row >= 0 && row < size) {
                parts[row]++;
                total++;
            }
        }
    }

    /** The latest ACTS, each with what its SHEET was; the oldest gives its place to a new one. */
    private static final class Notes {
        private final Sum[] sums = new Sum[MOST_NOTED];
        private final int[] sheets = new int[MOST_NOTED];
        private int newest;
        private int held;

        Notes() {
            for (int i = 0; i < MOST_NOTED; i++) {
                sums[i] = new Sum();
            }
        }

        void keep(int s, Sum sum) {
            newest = (newest + 1) % MOST_NOTED;
            sheets[newest] = s;
            sums[newest].take(sum);
            held = Math.min(held + 1, MOST_NOTED);
        }

        int newestSheet() {
            return sheets[newest];
        }

        Sum newestSum() {
            return sums[newest];
        }

        void drop() {
            newest = (newest + MOST_NOTED - 1) % MOST_NOTED;
            held = Math.max(0, held - 1);
        }
    }

    /** A LAW, with the counts that are known of it. */
    private static final class Law {
        private final long[] ways = new long[MOST + 1];
        private int known = -1;
        private int kind = ANY;
        private int modulus = 1;
        private int set;
        private int times;
        private int gap;
        private int extra;
        private int least;
        private int most;
        private int top;
        private int hookLength = 2;

        static boolean canBe(int kind, int a, int b, int c, int d) {
            switch (kind) {
                case ANY:
                case OWN:
                    return a == 0 && b == 0 && c == 0 && d == 0;
                case PARTS:
                    return isWithin(a, 1, 12) && isWithin(b, 0, 4095) && isWithin(c, 0, MOST) && d == 0;
                case GAPS:
                    return isWithin(a, 0, 20) && isWithin(b, 1, 12) && isWithin(c, 0, 5) && isWithin(d, 1, 20);
                case FEW:
                    return isWithin(a, 0, 60) && isWithin(b, 0, 60) && c == 0 && d == 0;
                case CORES:
                    return isHookLength(a) && b == 0 && c == 0 && d == 0;
                default:
                    return false;
            }
        }

        /** The numbers can be: see canBe(). */
        void become(int newKind, int a, int b, int c, int d) {
            known = -1;
            kind = newKind;
            switch (newKind) {
                case PARTS:
                    modulus = Math.max(1, a);
                    set = b;
                    times = c;
                    break;
                case GAPS:
                    gap = a;
                    modulus = Math.max(1, b);
                    extra = c;
                    least = d;
                    break;
                case FEW:
                    most = a;
                    top = b;
                    break;
                case CORES:
                    hookLength = a;
                    break;
                default:
                    break;
            }
        }

        boolean covers(int n) {
            return isWithin(n, 0, kind == FEW ? MOST_FEW : MOST);
        }

        boolean isRanked() {
            return kind <= FEW;
        }

        boolean hasRest(int v) {
            return (set >> (v % modulus) & 1) == 1;
        }

        int gapBehind(int v) {
            return v % modulus == 0 ? gap + extra : gap;
        }

        /** The first PART that isn't allowed, or NONE; turned is looked at by OWN alone. */
        int firstClash(Sum sum, Sum turned) {
            switch (kind) {
                case PARTS:
                    return firstOfWrongParts(sum);
                case GAPS:
                    return firstOfWrongGaps(sum);
                case FEW:
                    return firstOfMany(sum);
                case OWN:
                    return firstNotAlike(sum, turned);
                case CORES:
                    return sum.firstRowWithHook(hookLength);
                default:
                    return NONE;
            }
        }

        private int firstOfWrongParts(Sum sum) {
            int like = 0;
            for (int i = 0; i < sum.size; i++) {
                like = i > 0 && sum.at(i) == sum.at(i - 1) ? like + 1 : 1;
                if (!hasRest(sum.at(i)) || times > 0 && like > times) {
                    return i;
                }
            }
            return NONE;
        }

        private int firstOfWrongGaps(Sum sum) {
            for (int i = 0; i < sum.size; i++) {
                boolean tooNear = i > 0 && sum.at(i - 1) - sum.at(i) < gapBehind(sum.at(i - 1));
                if (tooNear || i == sum.size - 1 && sum.at(i) < least) {
                    return i;
                }
            }
            return NONE;
        }

        private int firstOfMany(Sum sum) {
            for (int i = 0; i < sum.size; i++) {
                if (i >= most || sum.at(i) > top) {
                    return i;
                }
            }
            return NONE;
        }

        private static int firstNotAlike(Sum sum, Sum turned) {
            for (int i = 0; i < sum.size; i++) {
                if (sum.at(i) != turned.at(i)) {
                    return i;
                }
            }
            return NONE;
        }
    }

    /** How many SUMS of n with no PART above k the latest asked of the LAWS ANY, PARTS, GAPS allows. */
    private static final class Table {
        private final long[] ways = new long[(MOST + 1) * (MOST + 2) / 2];
        private Law law;
        private int filled = -1;

        void forget(Law changed) {
            if (law == changed) {
                filled = -1;
            }
        }

        /** Makes at() good for this law up to n. */
        void prepare(Law asked, int n) {
            if (law != asked) {
                law = asked;
                filled = -1;
            }
            for (int i = filled + 1; i <= n && i <= MOST; i++) {
                fillRow(asked, i);
                filled = i;
            }
        }

        /** No PART of a SUM of n is above n: a row has n + 1 places, and a greater k is as good as n. */
        long at(int n, int k) {
            if (n < 0 || n > MOST) {
                return 0;
            }
            int place = k < 0 ? 0 : k > n ? n : k;
            return ways[n * (n + 1) / 2 + place];
        }

        private void fillRow(Law asked, int n) {
            int start = n * (n + 1) / 2;
            ways[start] = n == 0 ? 1 : 0;
            for (int k = 1; k <= n; k++) {
                ways[start + k] = ways[start + k - 1] + beginningWith(asked, n, k);
            }
        }

        private long beginningWith(Law asked, int n, int k) {
            switch (asked.kind) {
                case PARTS:
                    if (!asked.hasRest(k)) {
                        return 0;
                    }
                    return at(n - k, k) - (asked.times > 0 ? at(n - (asked.times + 1) * k, k - 1) : 0);
                case GAPS:
                    return k < asked.least ? 0 : at(n - k, k - asked.gapBehind(k));
                default:
                    return at(n - k, k);
            }
        }
    }

    /** How many SUMS of n up to 60 have at most p PARTS, none above q. */
    private static final class Box {
        private final int[] ways = new int[firstOf(MOST_FEW + 1)];
        private int filled = -1;

        /** p and q above n are as good as n: so n has (n + 1) (n + 1) places. */
        private static int firstOf(int n) {
            return n * (n + 1) * (2 * n + 1) / 6;
        }

        /** Makes at() good up to n. */
        void prepare(int n) {
            for (int i = filled + 1; i <= n && i <= MOST_FEW; i++) {
                fill(i);
                filled = i;
            }
        }

        long at(int p, int q, int n) {
            if (p < 0 || q < 0 || n < 0 || n > MOST_FEW) {
                return 0;
            }
            return ways[firstOf(n) + Math.min(p, n) * (n + 1) + Math.min(q, n)];
        }

        private void fill(int n) {
            int place = firstOf(n);
            for (int p = 0; p <= n; p++) {
                for (int q = 0; q <= n; q++) {
                    if (n == 0) {
                        ways[place] = 1;
                    } else {
                        ways[place] = p == 0 || q == 0 ? 0 : (int) (at(p, q - 1, n) + at(p - 1, q, n - q));
                    }
                    place++;
                }
            }
        }

        /** SUMS of n (above 0) by their first PART and how many they have: what is behind and below the first HOOK is free. */
        long waysByRank(int n, int m, int r) {
            prepare(n);
            long ways = 0;
            for (int first = 1; first <= n; first++) {
                for (int many = 1; many <= n + 1 - first; many++) {
                    if (Math.floorMod(first - many, m) == r) {
                        ways += at(many - 1, first - 1, n + 1 - first - many);
                    }
                }
            }
            return ways;
        }

        long waysByCrank(int n, int m, int r) {
            prepare(n);
            long ways = 0;
            for (int first = 2; first <= n; first++) {
                if (first % m == r) {
                    ways += withoutOnes(n, first) - withoutOnes(n, first - 1);
                }
            }
            for (int ones = 1; ones <= n; ones++) {
                for (int above = 0; above * (ones + 1) <= n - ones; above++) {
                    if (Math.floorMod(above - ones, m) == r) {
                        ways += withOnes(n, ones, above);
                    }
                }
            }
            return ways;
        }

        /** SUMS of n with no PART 1 and none above top (1 or above). */
        private long withoutOnes(int n, int top) {
            return at(n, top, n) - at(n, top, n - 1);
        }

        /** SUMS of n with so many PARTS 1, and so many PARTS above this number of them. */
        private long withOnes(int n, int ones, int above) {
            int free = n - ones - above * (ones + 1);
            long ways = 0;
            for (int middle = 0; middle <= free; middle++) {
                ways += withoutOnes(middle, ones) * at(above, free, free - middle);
            }
            return ways;
        }
    }

    /**
     * Counts and ranks by LAWS. To rank, it goes along the PARTS of a SUM from the first on, and knows at
     * each of them in how many ways the LAW lets it go on.
     */
    private static final class Counter {
        private final Table table = new Table();
        private final Box box = new Box();
        private final Product product = new Product();
        private Law law = new Law();
        private int rest;
        private int placed;
        private int latest;
        private int like;

        void forget(Law changed) {
            table.forget(changed);
        }

        /** How many SUMS of n a LAW that covers n allows. */
        long waysOf(Law asked, int n) {
            if (n > asked.known) {
                learn(asked, n);
            }
            return asked.ways[n];
        }

        private void learn(Law asked, int n) {
            switch (asked.kind) {
                case FEW:
                    box.prepare(n);
                    for (int i = asked.known + 1; i <= n; i++) {
                        asked.ways[i] = box.at(asked.most, asked.top, i);
                    }
                    asked.known = n;
                    break;
                case OWN:
                    learnOwn(asked);
                    break;
                case CORES:
                    learnCores(asked);
                    break;
                default:
                    table.prepare(asked, n);
                    for (int i = asked.known + 1; i <= n; i++) {
                        asked.ways[i] = table.at(i, i);
                    }
                    asked.known = n;
                    break;
            }
        }

        /** As many as SUMS of unlike odd PARTS; 1 + the power k is 1 - the power 2 k over 1 - the power k. */
        private void learnOwn(Law asked) {
            Rows.setOne(asked.ways);
            product.takeFactors(asked.ways, 4, 2, 1);
            product.takeFactors(asked.ways, 2, 1, -1);
            asked.known = MOST;
        }

        /** All SUMS over those of t quotients, whose SQUARES count t times: a SUM is a core and its quotients. */
        private void learnCores(Law asked) {
            Rows.setOne(asked.ways);
            product.takeFactors(asked.ways, 1, 0, -1);
            product.takeFactors(asked.ways, asked.hookLength, 0, asked.hookLength);
            asked.known = MOST;
        }

        /** How many SUMS that a LAW (of kinds 0 to 3) allows are ahead of one that it allows. */
        long waysAheadOf(Law asked, Sum sum) {
            start(asked, sum.total);
            long ahead = 0;
            for (int i = 0; i < sum.size; i++) {
                for (int v = greatest(); v > sum.at(i); v--) {
                    ahead += waysOnWith(v);
                }
                step(sum.at(i));
            }
            return ahead;
        }

        /** Makes the SUM of n that so many are ahead of; there is one. */
        void find(Law asked, int n, long ahead, Sum into) {
            start(asked, n);
            into.empty();
            long left = ahead;
            for (int i = 0; i < MOST && rest > 0; i++) {
                int v = greatest();
                long ways = waysOnWith(v);
                while (v > 1 && left >= ways) {
                    left -= ways;
                    v--;
                    ways = waysOnWith(v);
                }
                into.add(v);
                step(v);
            }
        }

        private void start(Law asked, int n) {
            law = asked;
            rest = n;
            placed = 0;
            latest = 0;
            like = 0;
            if (law.kind == FEW) {
                box.prepare(n);
            } else {
                table.prepare(law, n);
            }
        }

        private void step(int v) {
            like = v == latest ? like + 1 : 1;
            latest = v;
            rest -= v;
            placed++;
        }

        /** No PART above this one can come now. */
        private int greatest() {
            if (placed == 0) {
                return law.kind == FEW ? Math.min(rest, law.top) : rest;
            }
            return Math.min(rest, law.kind == GAPS ? latest - law.gapBehind(latest) : latest);
        }

        /** In how many ways the rest can be made if PART v (greatest() at most) comes now. */
        private long waysOnWith(int v) {
            if (law.kind == FEW) {
                return box.at(law.most - placed - 1, v, rest - v);
            }
            if (law.kind == PARTS && law.times > 0 && v == latest) {
                return waysOnWithLike(v);
            }
            return table.at(rest, v) - table.at(rest, v - 1);
        }

        /** Some of the times that the latest PART may come are used up: only those left count. */
        private long waysOnWithLike(int v) {
            long ways = 0;
            for (int more = 1; more <= law.times - like && more * v <= rest; more++) {
                ways += table.at(rest - more * v, v - 1);
            }
            return ways;
        }
    }

    /** The LEADS, there and back. */
    private static final class Leads {
        private final int[] times = new int[MOST + 1];
        private final int[] arms = new int[MOST];
        private final int[] legs = new int[MOST];
        private final Sum aside = new Sum();

        static boolean canBe(int kind, int x) {
            return kind == 1 ? isWithin(x, 2, 12) : isWithin(kind, 2, 5) && x == 0;
        }

        /** Whether a SUM is of the kind that a LEAD (or its way back) starts from. */
        boolean leadFrom(int kind, int x, boolean forth, Sum sum) {
            switch (kind) {
                case 1:
                    return forth ? !hasTimes(sum, x) : !hasMultiple(sum, x);
                case 2:
                    return forth ? sum.isUnlike() && sum.isOdd() : isOwn(sum);
                case 3:
                    return forth ? sum.isOdd() : sum.isUnlike();
                case 5:
                    return sum.isUnlike();
                default:
                    return true;
            }
        }

        /** into is another one than from. */
        void make(int kind, int x, boolean forth, Sum from, Sum into) {
            switch (kind) {
                case 1:
                    regroup(x, forth, from, into);
                    break;
                case 2:
                    if (forth) {
                        hooksToOwn(from, into);
                    } else {
                        ownToHooks(from, into);
                    }
                    break;
                case 3:
                    if (forth) {
                        bend(from, into);
                    } else {
                        unbend(from, into);
                    }
                    break;
                case 4:
                    into.turn(from);
                    break;
                default:
                    move(from, into);
                    break;
            }
        }

        private static boolean hasTimes(Sum sum, int x) {
            for (int i = x - 1; i < sum.size; i++) {
                if (sum.at(i) == sum.at(i - x + 1)) {
                    return true;
                }
            }
            return false;
        }

        private static boolean hasMultiple(Sum sum, int x) {
            for (int i = 0; i < sum.size; i++) {
                if (sum.at(i) % Math.max(1, x) == 0) {
                    return true;
                }
            }
            return false;
        }

        private boolean isOwn(Sum sum) {
            aside.turn(sum);
            return Law.firstNotAlike(sum, aside) == NONE;
        }

        private void regroup(int x, boolean forth, Sum from, Sum into) {
            for (int v = 0; v <= MOST; v++) {
                times[v] = 0;
            }
            for (int i = 0; i < from.size; i++) {
                times[from.at(i)]++;
            }
            if (forth) {
                cutMultiples(Math.max(2, x));
            } else {
                putLikeTogether(Math.max(2, x));
            }
            into.empty();
            for (int v = MOST; v > 0; v--) {
                for (int i = 0; i < times[v]; i++) {
                    into.add(v);
                }
            }
        }

        private void cutMultiples(int x) {
            for (int v = MOST; v > 0; v--) {
                if (v % x == 0) {
                    times[v / x] += x * times[v];
                    times[v] = 0;
                }
            }
        }

        private void putLikeTogether(int x) {
            for (int v = 1; v * x <= MOST; v++) {
                times[v * x] += times[v] / x;
                times[v] %= x;
            }
        }

        private void hooksToOwn(Sum from, Sum into) {
            for (int i = 0; i < from.size; i++) {
                arms[i] = from.at(i) / 2;
                legs[i] = from.at(i) / 2;
            }
            draw(from.size, into);
        }

        private static void ownToHooks(Sum from, Sum into) {
            into.empty();
            for (int i = 0; i < from.side(); i++) {
                into.add(2 * (from.at(i) - i) - 1);
            }
        }

        /** The SUM whose SQUARES (i, i), i below side, have these arms and legs, and that has no other (i, i). */
        private void draw(int side, Sum into) {
            into.empty();
            for (int i = 0; i < side; i++) {
                into.add(arms[i] + i + 1);
            }
            int height = side > 0 ? legs[0] + 1 : 0;
            for (int row = side; row < height; row++) {
                into.add(columnsDownTo(row, side));
            }
        }

        private int columnsDownTo(int row, int side) {
            int many = 0;
            while (many < side && many + legs[many] >= row) {
                many++;
            }
            return many;
        }

        private static void bend(Sum from, Sum into) {
            into.empty();
            for (int j = 0; j < from.size; j++) {
                int arm = from.at(j) / 2 - j;
                int upAndRight = arm + halvesFrom(from, j) - j;
                int upAndLeft = arm + halvesFrom(from, j + 1) - j - 1;
                if (upAndRight > 0) {
                    into.add(upAndRight);
                }
                if (upAndLeft <= 0) {
                    return;
                }
                into.add(upAndLeft);
            }
        }

        /** How many PARTS 2 a + 1 have an a of j at least. */
        private static int halvesFrom(Sum from, int j) {
            int many = 0;
            while (many < from.size && from.at(many) / 2 >= j) {
                many++;
            }
            return many;
        }

        /**
         * The middle column and what is right of it, as a SUM of its own, has at (j, j) an arm a(j) - j and
         * with its leg b(j) - j SQUARES down: bends 2 j + 1 and 2 j + 2 are that arm with the column j, and
         * with the column j + 1. The last arm stands alone (or is 0): so all are found from the last bend on.
         */
        private void unbend(Sum from, Sum into) {
            int side = (from.size + 1) / 2;
            int column = 0;
            for (int j = side - 1; j >= 0; j--) {
                arms[j] = from.at(2 * j + 1) - column;
                column = from.at(2 * j) - arms[j];
                legs[j] = column - 1;
            }
            draw(side, aside);
            into.empty();
            for (int i = 0; i < aside.size; i++) {
                into.add(2 * aside.at(i) - 1);
            }
        }

        private static void move(Sum from, Sum into) {
            int last = from.at(from.size - 1);
            int run = firstRun(from);
            boolean allRun = run == from.size;
            if (allRun && (last == run || last == run + 1) || from.size == 0) {
                into.take(from);
            } else if (last <= run) {
                shiftFirst(from, from.size - 1, last, 1, into);
            } else {
                shiftFirst(from, from.size, run, -1, into);
                into.add(run);
            }
        }

        private static int firstRun(Sum from) {
            int run = Math.min(1, from.size);
            while (run < from.size && from.at(run) == from.at(run - 1) - 1) {
                run++;
            }
            return run;
        }

        /** Takes so many PARTS, the first ones (shifted) by a step higher. */
        private static void shiftFirst(Sum from, int many, int shifted, int step, Sum into) {
            into.empty();
            for (int i = 0; i < many; i++) {
                into.add(i < shifted ? from.at(i) + step : from.at(i));
            }
        }
    }

    /** The numbers of a SUM (a PART and how many places are behind it) as beads on t runners. */
    private static final class Abacus {
        /** With up to MOST + 11 beads, the first PART's number is below this. */
        private static final int PLACES = 2 * MOST + 12;

        private final boolean[] beads = new boolean[PLACES];
        private int runners = 2;

        /** Sets the numbers of a SUM for t runners (2 .. 12) and the least multiple of t that is not below least. */
        void set(Sum sum, int t, int least) {
            runners = Math.max(2, t);
            int width = (least + runners - 1) / runners * runners;
            for (int place = 0; place < PLACES; place++) {
                beads[place] = false;
            }
            for (int i = 0; i < width; i++) {
                setBead(sum.at(i) + width - 1 - i);
            }
        }

        private void setBead(int place) {
            if (place >= 0 && place < PLACES) {
                beads[place] = true;
            }
        }

        private int beadsOn(int r) {
            int many = 0;
            for (int place = r; place < PLACES; place += Math.max(1, runners)) {
                many += beads[place] ? 1 : 0;
            }
            return many;
        }

        private void emptyRunner(int r) {
            for (int place = r; place < PLACES; place += Math.max(1, runners)) {
                beads[place] = false;
            }
        }

        void pushDown() {
            for (int r = 0; r < runners; r++) {
                int many = beadsOn(r);
                emptyRunner(r);
                for (int i = 0; i < many; i++) {
                    setBead(i * runners + r);
                }
            }
        }

        /** On runner r, which is pushed down, each bead goes up by a PART of the quotient. */
        void lift(int r, Sum quotient) {
            int many = beadsOn(r);
            emptyRunner(r);
            for (int i = 0; i < many; i++) {
                setBead((quotient.at(i) + many - 1 - i) * runners + r);
            }
        }

        /** Puts the greatest bead that can down by one place of its runner. */
        boolean dropOne() {
            for (int place = PLACES - 1; place >= runners; place--) {
                if (beads[place] && !beads[place - runners]) {
                    beads[place] = false;
                    beads[place - runners] = true;
                    return true;
                }
            }
            return false;
        }

        /** A bead's PART is how many free places are below it. */
        void read(Sum into) {
            readEvery(1, 0, into);
        }

        void readRunner(int r, Sum into) {
            readEvery(runners, r, into);
        }

        /** first is below step. */
        private void readEvery(int step, int first, Sum into) {
            int free = 0;
            int top = first;
            for (int place = first; place < PLACES; place += Math.max(1, step)) {
                free += beads[place] ? 0 : 1;
                top = place;
            }
            into.empty();
            for (int place = top; place >= 0; place -= Math.max(1, step)) {
                boolean bead = beads[place];
                free -= bead ? 0 : 1;
                if (bead && free > 0) {
                    into.add(free);
                }
            }
        }
    }

    /** FILLINGS of SUMS of up to 30. */
    private static final class Filler {
        private final Sum shape = new Sum();
        private final int[] powers = new int[MOST_FILLED + 1];
        private long left;

        /** n! over the lengths of all HOOKS, by powers of primes: n! itself is beyond 64 bits. */
        long waysToFill(Sum sum) {
            int n = Math.min(sum.total, MOST_FILLED);
            for (int v = 0; v <= n; v++) {
                powers[v] = 1;
            }
            for (int i = 0; i < sum.size; i++) {
                for (int j = 0; j < sum.at(i); j++) {
                    powers[Math.min(n, sum.hookAt(i, j))]--;
                }
            }
            breakToPrimes(n);
            long ways = 1;
            for (int v = 2; v <= n; v++) {
                for (int i = 0; i < powers[v]; i++) {
                    ways *= v;
                }
            }
            return ways;
        }

        private void breakToPrimes(int n) {
            for (int v = n; v > 3; v--) {
                int divisor = leastDivisor(v);
                if (divisor < v) {
                    powers[divisor] += powers[v];
                    powers[v / divisor] += powers[v];
                    powers[v] = 0;
                }
            }
        }

        private static int leastDivisor(int v) {
            for (int d = 2; d * d <= v; d++) {
                if (v % d == 0) {
                    return d;
                }
            }
            return v;
        }

        /** The row of v in FILLING x; there are such. */
        int rowOf(Sum sum, long x, int v) {
            shape.take(sum);
            left = x;
            int row = 0;
            for (int greatest = sum.total; greatest >= v; greatest--) {
                row = takeGreatest();
            }
            return row;
        }

        /** The greatest number stands in a corner: takes it away from the shape, and tells its row. */
        private int takeGreatest() {
            for (int row = 0; row < shape.size; row++) {
                if (shape.isCorner(row)) {
                    shape.shrink(row);
                    long ways = waysToFill(shape);
                    if (left < ways) {
                        return row;
                    }
                    left -= ways;
                    shape.grow(row);
                }
            }
            return 0;
        }
    }

    /** SERIES: rows of 401 numbers, all of it going round in 64 bits. */
    private static final class Rows {
        /** Beyond it, (a k k + b k) / 2 is above 400 for all a and b: it is (2 k k - k) / 2 at least. */
        private static final int FAR = 30;

        static void setZero(long[] row) {
            for (int i = 0; i < row.length; i++) {
                row[i] = 0;
            }
        }

        static void setOne(long[] row) {
            setZero(row);
            if (row.length > 0) {
                row[0] = 1;
            }
        }

        static void setSigns(long[] row, int a, int b) {
            setZero(row);
            for (int k = -FAR; k <= FAR; k++) {
                int place = (a * k * k + b * k) / 2;
                if (place >= 0 && place < row.length) {
                    row[place] += k % 2 == 0 ? 1 : -1;
                }
            }
        }

        /** From the last place on: then y may be the same row as x. */
        static void multiply(long[] x, long[] y) {
            for (int i = Math.min(x.length, y.length) - 1; i >= 0; i--) {
                long sum = 0;
                for (int j = 0; j <= i; j++) {
                    sum += x[j] * y[i - j];
                }
                x[i] = sum;
            }
        }

        static void addTimes(long[] x, long[] y, long times) {
            for (int i = 0; i < x.length && i < y.length; i++) {
                x[i] += times * y[i];
            }
        }

        static void moveUp(long[] row, int places) {
            for (int i = row.length - 1; i >= 0; i--) {
                row[i] = i >= places ? row[i - places] : 0;
            }
        }
    }

    /** Endless products, as far as a SERIES goes. */
    private static final class Product {
        /** The numbers of (1 - y) to a power, from y to the 0-th on. */
        private final long[] choices = new long[MOST_POWER + 1];

        /** Times (1 - the power k) to the e-th (-20 .. 20) for each k with rest r by m. */
        void takeFactors(long[] row, int m, int r, int e) {
            int power = Math.min(Math.abs(e), MOST_POWER);
            choose(power);
            for (int k = r == 0 ? m : r; k > 0 && k < row.length; k += Math.max(1, m)) {
                if (e > 0) {
                    timesPower(row, k, power);
                } else if (e < 0) {
                    overPower(row, k, power);
                }
            }
        }

        private void choose(int power) {
            choices[0] = 1;
            for (int j = 1; j <= power; j++) {
                choices[j] = -choices[j - 1] * (power - j + 1) / j;
            }
        }

        /** From the last place on: what it takes is still what it was. */
        private void timesPower(long[] row, int k, int power) {
            for (int i = row.length - 1; i >= k; i--) {
                row[i] += broughtTo(row, i, k, power);
            }
        }

        /** From the first place on: what it takes is divided already. */
        private void overPower(long[] row, int k, int power) {
            for (int i = k; i < row.length; i++) {
                row[i] -= broughtTo(row, i, k, power);
            }
        }

        /** What all but the first of the choices bring to place i. */
        private long broughtTo(long[] row, int i, int k, int power) {
            long sum = 0;
            int from = i - k;
            for (int j = 1; j <= power && from >= 0; j++) {
                sum += choices[j] * row[from];
                from -= k;
            }
            return sum;
        }
    }
}
