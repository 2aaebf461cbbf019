import java.math.BigInteger;
import java.util.ArrayList;
import java.util.HashSet;
import java.util.List;
import java.util.Set;

/** Promises 14 to 22: lead, back, core, quotient, join, peel, fillings, filling, heap. */
public final class WaysTest {
    private static final int RANGE = PartitionPress.RANGE;
    private static final int KIND = PartitionPress.KIND;
    private static final int[] NO_SHEETS = {-1, 8, Integer.MIN_VALUE, Integer.MAX_VALUE};
    private static final Check CHECK = new Check();

    public static void main(String[] args) {
        leads();
        examples();
        farLeads();
        wrongLeads();
        cores();
        farCores();
        joins();
        wrongCores();
        fillings();
        orderOfFillings();
        wrongFillings();
        heaps();
        CHECK.end();
    }

    private static void leads() {
        for (int n = 0; n <= 21; n++) {
            List<int[]> all = Sums.all(n);
            for (int x = 2; x <= 12; x++) {
                oneToOne(1, x, all);
            }
            for (int kind = 2; kind <= 5; kind++) {
                oneToOne(kind, 0, all);
            }
        }
    }

    /** Each SUM of the one kind goes to one of the other kind, no two to the same, and back again. */
    private static void oneToOne(int kind, int x, List<int[]> all) {
        PartitionPress press = new PartitionPress();
        String of = kind + ", " + x;
        Set<String> images = new HashSet<>();
        int targets = 0;
        for (int[] sum : all) {
            Sums.write(press, 0, sum);
            Sums.write(press, 1, 2, 1);
            int acts = press.told(8);
            boolean from = isFrom(kind, x, sum);
            boolean to = isTo(kind, x, sum);
            targets += to ? 1 : 0;
            if (!from) {
                CHECK.due("14: lead " + of, press.lead(kind, x, 0, 1), KIND);
                CHECK.due("14: refused", Sums.read(press, 1), new int[] {2, 1});
                CHECK.due("14: no act", press.told(8), acts);
            } else {
                int[] want = led(kind, x, sum);
                CHECK.due("14: lead " + of, press.lead(kind, x, 0, 1), want.length);
                int[] image = Sums.read(press, 1);
                CHECK.due("14: led by " + of, image, want);
                CHECK.holds("14: kind " + of, isTo(kind, x, image));
                images.add(java.util.Arrays.toString(image));
                CHECK.due("15: back " + of, press.back(kind, x, 1, 2), sum.length);
                CHECK.due("15: back by " + of, Sums.read(press, 2), sum);
                CHECK.due("14: acts", press.told(8), Math.min(60, acts + 2));
            }
            if (!to) {
                acts = press.told(8);
                CHECK.due("15: back " + of, press.back(kind, x, 0, 2), KIND);
                CHECK.due("15: no act", press.told(8), acts);
            }
        }
        CHECK.due("14: images " + of, images.size(), targets);
    }

    private static boolean isFrom(int kind, int x, int[] sum) {
        switch (kind) {
            case 1: {
                for (int v : sum) {
                    if (Sums.times(sum, v) >= x) {
                        return false;
                    }
                }
                return true;
            }
            case 2:
                return Sums.isUnlike(sum) && Sums.isOdd(sum);
            case 3:
                return Sums.isOdd(sum);
            case 4:
                return true;
            default:
                return Sums.isUnlike(sum);
        }
    }

    private static boolean isTo(int kind, int x, int[] sum) {
        switch (kind) {
            case 1: {
                for (int v : sum) {
                    if (v % x == 0) {
                        return false;
                    }
                }
                return true;
            }
            case 2:
                return java.util.Arrays.equals(sum, Sums.turned(sum));
            case 4:
                return true;
            default:
                return Sums.isUnlike(sum);
        }
    }

    private static int[] led(int kind, int x, int[] sum) {
        switch (kind) {
            case 1:
                return cut(x, sum);
            case 2:
                return drawn(sum);
            case 3:
                return bent(sum);
            case 4:
                return Sums.turned(sum);
            default:
                return moved(sum);
        }
    }

    private static int[] cut(int x, int[] sum) {
        List<Integer> parts = new ArrayList<>();
        for (int v : sum) {
            parts.add(v);
        }
        for (int i = 0; i < parts.size(); i++) {
            while (parts.get(i) % x == 0) {
                int piece = parts.get(i) / x;
                parts.set(i, piece);
                for (int j = 1; j < x; j++) {
                    parts.add(piece);
                }
            }
        }
        return Sums.sorted(parts);
    }

    private static int[] drawn(int[] sum) {
        boolean[][] squares = new boolean[60][60];
        for (int i = 0; i < sum.length; i++) {
            for (int arm = 0; arm <= sum[i] / 2; arm++) {
                squares[i][i + arm] = true;
                squares[i + arm][i] = true;
            }
        }
        int[] rows = new int[60];
        for (int i = 0; i < 60; i++) {
            for (int j = 0; j < 60; j++) {
                rows[i] += squares[i][j] ? 1 : 0;
            }
        }
        return Sums.trimmed(rows);
    }

    /** The bends drawn with pencil: each takes what is still there of its column, and of its row to its side. */
    static int[] bent(int[] sum) {
        int middle = 30;
        boolean[][] there = new boolean[sum.length + 1][61];
        for (int i = 0; i < sum.length; i++) {
            for (int j = middle - sum[i] / 2; j <= middle + sum[i] / 2; j++) {
                there[i][j] = true;
            }
        }
        List<Integer> bends = new ArrayList<>();
        for (int bend = 0; bend < 60; bend++) {
            boolean right = bend % 2 == 0;
            int column = right ? middle + bend / 2 : middle - bend / 2 - 1;
            int top = bend / 2;
            int many = 0;
            for (int i = 0; i < sum.length; i++) {
                many += take(there, i, column);
            }
            for (int j = 0; j <= 60 && top < sum.length; j++) {
                if (right ? j > column : j < column) {
                    many += take(there, top, j);
                }
            }
            if (many > 0) {
                bends.add(many);
            }
        }
        return Sums.sorted(bends);
    }

    private static int take(boolean[][] there, int i, int j) {
        if (j < 0 || j > 60 || !there[i][j]) {
            return 0;
        }
        there[i][j] = false;
        return 1;
    }

    private static int[] moved(int[] sum) {
        if (sum.length == 0) {
            return sum;
        }
        int s = sum[sum.length - 1];
        int g = 1;
        while (g < sum.length && sum[g] == sum[0] - g) {
            g++;
        }
        if (g == sum.length && (s == g || s == g + 1)) {
            return sum;
        }
        int[] to = java.util.Arrays.copyOf(sum, s <= g ? sum.length - 1 : sum.length + 1);
        if (s <= g) {
            for (int i = 0; i < s; i++) {
                to[i]++;
            }
        } else {
            for (int i = 0; i < g; i++) {
                to[i]--;
            }
            to[sum.length] = g;
        }
        return to;
    }

    private static void examples() {
        PartitionPress press = new PartitionPress();
        Sums.write(press, 0, 3, 2);
        int acts = press.told(8);
        CHECK.due("14: a sum that stays", press.lead(5, 0, 0, 0), 2);
        CHECK.due("14: is an act", press.told(8), acts + 1);
        CHECK.due("14: it stays", Sums.read(press, 0), new int[] {3, 2});
        CHECK.due("15: back too", press.back(5, 0, 0, 0), 2);
        CHECK.due("15: is an act", press.told(8), acts + 2);
        CHECK.due("14: of no parts", press.lead(5, 0, 6, 6), 0);
        Sums.write(press, 0, 4, 3, 1);
        CHECK.due("14: a move", press.lead(5, 0, 0, 0), 2);
        CHECK.due("14: the last part is taken away", Sums.read(press, 0), new int[] {5, 3});
        CHECK.due("14: undo", press.undo(), press.told(8));
        CHECK.due("14: taken back", Sums.read(press, 0), new int[] {4, 3, 1});
        Sums.write(press, 0, 5, 3);
        CHECK.due("14: to itself, turned", press.lead(4, 0, 0, 0), 5);
        CHECK.due("14: turned", Sums.read(press, 0), new int[] {2, 2, 2, 1, 1});
        Sums.write(press, 1, 5, 5, 3, 3, 1, 1, 1);
        CHECK.due("14: bends", press.lead(3, 0, 1, 1), 4);
        CHECK.due("14: bends", Sums.read(press, 1), bent(new int[] {5, 5, 3, 3, 1, 1, 1}));
    }

    /** SUMS of 400, and with many PARTS. */
    private static void farLeads() {
        PartitionPress press = new PartitionPress();
        press.law(1, 1, 2, 2, 0, 0);
        press.law(2, 1, 1, 1, 1, 0);
        press.law(3, 1, 2, 2, 1, 0);
        for (int i = 0; i < 20; i++) {
            thereAndBack(press, 3, 0, 1, i);
            thereAndBack(press, 5, 0, 2, i);
            thereAndBack(press, 2, 0, 3, i);
            thereAndBack(press, 4, 0, 0, i);
            for (int x = 2; x <= 12; x++) {
                press.law(4, 1, 1, 1, x - 1, 0);
                thereAndBack(press, 1, x, 4, i);
            }
        }
        Sums.write(press, 0, 256, 128, 16);
        CHECK.due("14: cut to ones", press.lead(1, 2, 0, 1), 400);
        CHECK.due("14: ones", press.sheet(1, 100), 1);
        CHECK.due("15: and back", press.back(1, 2, 1, 2), 3);
        CHECK.due("15: and back", Sums.read(press, 2), new int[] {256, 128, 16});
    }

    private static void thereAndBack(PartitionPress press, int kind, int x, int law, int i) {
        long rank = (press.count(law, 400) - 1) / 19 * i;
        press.tell(law, 400, rank, 0);
        int[] sum = Sums.read(press, 0);
        CHECK.holds("14: lead of 400", press.lead(kind, x, 0, 1) > 0);
        CHECK.due("14: n", press.sheet(1, 0), 400);
        CHECK.due("15: back of 400", press.back(kind, x, 1, 1), sum.length);
        CHECK.due("15: back of 400", Sums.read(press, 1), sum);
    }

    private static void wrongLeads() {
        PartitionPress press = new PartitionPress();
        Sums.write(press, 0, 5, 3);
        int acts = press.told(8);
        int[][] none = {{0, 0}, {6, 0}, {-1, 0}, {1, 1}, {1, 13}, {1, 0}, {1, -2}, {2, 1}, {3, 2}, {4, 1}, {5, -1},
            {Integer.MIN_VALUE, 0}, {Integer.MAX_VALUE, 0}, {1, Integer.MIN_VALUE}, {1, Integer.MAX_VALUE}};
        for (int[] lead : none) {
            CHECK.due("14: no such lead", press.lead(lead[0], lead[1], 0, 1), RANGE);
            CHECK.due("15: no such lead", press.back(lead[0], lead[1], 0, 1), RANGE);
        }
        for (int s : NO_SHEETS) {
            CHECK.due("14: no sheet", press.lead(4, 0, s, 1), RANGE);
            CHECK.due("14: no sheet", press.lead(4, 0, 0, s), RANGE);
            CHECK.due("15: no sheet", press.back(4, 0, s, 1), RANGE);
            CHECK.due("15: no sheet", press.back(4, 0, 0, s), RANGE);
        }
        CHECK.due("14: no act", press.told(8), acts);
    }

    private static void cores() {
        PartitionPress press = new PartitionPress();
        for (int n = 0; n <= 16; n++) {
            for (int[] sum : Sums.all(n)) {
                for (int t = 2; t <= 12; t++) {
                    takeApart(press, t, sum);
                }
            }
        }
    }

    private static void takeApart(PartitionPress press, int t, int[] sum) {
        Sums.write(press, 0, sum);
        Sums.write(press, 1, sum);
        int[] left = sum;
        for (int[] less = Sums.peeled(left, t); less != null; less = Sums.peeled(left, t)) {
            int acts = press.told(8);
            CHECK.due("19: peel", press.peel(t, 1), 1);
            CHECK.due("19: peeled by " + t, Sums.read(press, 1), less);
            CHECK.due("19: an act", press.told(8), Math.min(60, acts + 1));
            left = less;
        }
        int acts = press.told(8);
        CHECK.due("19: a core", press.peel(t, 1), 0);
        CHECK.due("19: no act", press.told(8), acts);
        CHECK.due("16: core", press.core(t, 0, 2), Sums.total(left));
        CHECK.due("16: core by " + t, Sums.read(press, 2), left);
        CHECK.due("16: an act", press.told(8), Math.min(60, acts + 1));
        int size = Sums.total(left);
        for (int r = 0; r < t; r++) {
            int[] want = quotient(t, r, sum);
            CHECK.due("17: quotient", press.quotient(t, r, 0, 3), Sums.total(want));
            CHECK.due("17: quotient " + r + " by " + t, Sums.read(press, 3), want);
            size += t * Sums.total(want);
        }
        CHECK.due("17: core and quotients", size, Sums.total(sum));
        CHECK.due("17: s stays", Sums.read(press, 0), sum);
        CHECK.due("17: r is t", press.quotient(t, t, 0, 3), RANGE);
        CHECK.due("17: r below 0", press.quotient(t, -1, 0, 3), RANGE);
    }

    static int[] quotient(int t, int r, int[] sum) {
        int w = 0;
        while (w < sum.length) {
            w += t;
        }
        List<Integer> u = new ArrayList<>();
        for (int i = 0; i < w; i++) {
            int number = Sums.at(sum, i) + w - 1 - i;
            if (number % t == r) {
                u.add(number / t);
            }
        }
        int[] parts = new int[u.size()];
        for (int i = 0; i < parts.length; i++) {
            parts[i] = u.get(i) - (parts.length - 1 - i);
        }
        return Sums.trimmed(parts);
    }

    /** SUMS of 400, taken apart and put together again. */
    private static void farCores() {
        PartitionPress press = new PartitionPress();
        long many = press.count(0, 400);
        for (int i = 0; i <= 20; i++) {
            for (int t = 2; t <= 7; t++) {
                press.tell(0, 400, i < 20 ? many / 20 * i : many - 1, 7);
                int[] sum = Sums.read(press, 7);
                for (int r = 0; r < t; r++) {
                    press.quotient(t, r, 7, r);
                }
                press.core(t, 7, 7);
                CHECK.due("16: is a core", press.peel(t, 7), 0);
                CHECK.due("18: join", press.join(t, 7, 0), 400);
                CHECK.due("18: joined by " + t, Sums.read(press, 7), sum);
            }
            for (int t = 8; t <= 12; t++) {
                press.tell(0, 400, many / 21 * i, 7);
                int[] sum = Sums.read(press, 7);
                int n = press.core(t, 7, 6);
                for (int r = 0; r < t; r++) {
                    n += t * press.quotient(t, r, 7, 5);
                    CHECK.due("17: quotient " + r + " by " + t, Sums.read(press, 5), quotient(t, r, sum));
                }
                CHECK.due("17: core and quotients", n, 400);
            }
        }
    }

    private static void joins() {
        PartitionPress press = new PartitionPress();
        for (int n = 0; n <= 12; n++) {
            for (int[] sum : Sums.all(n)) {
                for (int t = 2; t <= 7; t++) {
                    Sums.write(press, 0, sum);
                    for (int r = 0; r < t; r++) {
                        press.quotient(t, r, 0, r + 1);
                    }
                    press.core(t, 0, 0);
                    int acts = press.told(8);
                    CHECK.due("18: join", press.join(t, 0, 1), n);
                    CHECK.due("18: joined by " + t, Sums.read(press, 0), sum);
                    CHECK.due("18: an act", press.told(8), Math.min(60, acts + 1));
                }
            }
        }
        for (int t = 2; t <= 7; t++) {
            highQuotients(t);
        }
        refusedJoins();
    }

    /** Quotients with far more PARTS than the core has. */
    private static void highQuotients(int t) {
        for (int r = 0; r < t; r++) {
            PartitionPress press = new PartitionPress();
            int high = 400 / t;
            press.tell(0, high, press.count(0, high) - 1, 1 + r);
            CHECK.due("18: join", press.join(t, 0, 1), high * t);
            int[] sum = Sums.read(press, 0);
            CHECK.due("18: quotient back", quotient(t, r, sum).length, high);
            CHECK.due("18: core back", press.core(t, 0, 7), 0);
            PartitionPress full = new PartitionPress();
            full.tell(0, high + 1, 0, 1 + r);
            CHECK.due("18: full", full.join(t, 0, 1), PartitionPress.FULL);
            CHECK.due("18: no act", full.told(8), 1);
            CHECK.due("18: refused", full.sheet(0, 0), 0);
        }
    }

    private static void refusedJoins() {
        PartitionPress press = new PartitionPress();
        Sums.write(press, 0, 2);
        Sums.write(press, 3, 4);
        int acts = press.told(8);
        CHECK.due("18: no core", press.join(2, 0, 3), KIND);
        CHECK.due("18: core by 3", press.join(3, 0, 3), 14);
        CHECK.due("18: undo", press.undo(), acts);
        CHECK.due("18: s is the first of them", press.join(3, 3, 3), RANGE);
        CHECK.due("18: s is the last of them", press.join(3, 5, 3), RANGE);
        CHECK.due("18: s is behind them", press.join(3, 6, 3), 12);
        CHECK.due("18: undo", press.undo(), acts);
        CHECK.due("18: too far", press.join(3, 0, 6), RANGE);
        CHECK.due("18: to the last", press.join(3, 0, 5), 2);
        CHECK.due("18: undo", press.undo(), acts);
        CHECK.due("18: q below 0", press.join(3, 7, -1), RANGE);
        CHECK.due("18: q far", press.join(3, 7, Integer.MAX_VALUE), RANGE);
        CHECK.due("18: q far", press.join(3, 7, Integer.MIN_VALUE), RANGE);
        for (int t : new int[] {-1, 0, 1, 8, 9, 12, 13, Integer.MIN_VALUE, Integer.MAX_VALUE}) {
            CHECK.due("18: t " + t, press.join(t, 7, 0), RANGE);
        }
        for (int s : NO_SHEETS) {
            CHECK.due("18: no sheet", press.join(2, s, 0), RANGE);
        }
        CHECK.due("18: no act", press.told(8), acts);
        Sums.write(press, 0, 2);
        press.clear(1);
        press.part(1, 400);
        CHECK.due("18: kind goes before full", press.join(2, 0, 1), KIND);
    }

    private static void wrongCores() {
        PartitionPress press = new PartitionPress();
        Sums.write(press, 0, 9, 4);
        int acts = press.told(8);
        for (int t : new int[] {-2, 0, 1, 13, Integer.MIN_VALUE, Integer.MAX_VALUE}) {
            CHECK.due("16: t " + t, press.core(t, 0, 1), RANGE);
            CHECK.due("17: t " + t, press.quotient(t, 0, 0, 1), RANGE);
            CHECK.due("19: t " + t, press.peel(t, 0), RANGE);
        }
        for (int s : NO_SHEETS) {
            CHECK.due("16: no sheet", press.core(2, s, 1), RANGE);
            CHECK.due("16: no sheet", press.core(2, 0, s), RANGE);
            CHECK.due("17: no sheet", press.quotient(2, 0, s, 1), RANGE);
            CHECK.due("17: no sheet", press.quotient(2, 0, 0, s), RANGE);
            CHECK.due("17: no r", press.quotient(7, s, 0, 1), RANGE);
            CHECK.due("19: no sheet", press.peel(2, s), RANGE);
        }
        CHECK.due("16: no act", press.told(8), acts);
        CHECK.due("16: on itself", press.core(3, 0, 0), 4);
        CHECK.due("16: on itself", Sums.read(press, 0), new int[] {3, 1});
        press.undo();
        CHECK.due("17: on itself", press.quotient(2, 1, 0, 0), Sums.total(quotient(2, 1, new int[] {9, 4})));
        CHECK.due("17: on itself", Sums.read(press, 0), quotient(2, 1, new int[] {9, 4}));
    }

    private static void fillings() {
        PartitionPress press = new PartitionPress();
        for (int n : new int[] {0, 1, 2, 5, 9, 20, 30}) {
            BigInteger squares = BigInteger.ZERO;
            BigInteger orders = BigInteger.ONE;
            for (int i = 2; i <= n; i++) {
                orders = orders.multiply(BigInteger.valueOf(i));
            }
            press.tell(0, n, 0, 4);
            do {
                BigInteger ways = BigInteger.valueOf(press.fillings(4));
                squares = squares.add(ways.multiply(ways));
            } while (press.next(4) == 1);
            CHECK.holds("20: squares of all fillings of " + n + " make n!", squares.equals(orders));
        }
        for (int n = 0; n <= 9; n++) {
            for (int[] sum : Sums.all(n)) {
                Sums.write(press, 4, sum);
                CHECK.due("20: fillings", press.fillings(4), all(sum).size());
            }
        }
    }

    /** All FILLINGS of a SUM as rows by v: at index v - 1 the row of v; in no order. */
    private static List<int[]> all(int[] sum) {
        List<int[]> found = new ArrayList<>();
        fill(sum, new int[sum.length], new int[Sums.total(sum)], 0, found);
        return found;
    }

    private static void fill(int[] sum, int[] used, int[] rows, int v, List<int[]> found) {
        if (v == rows.length) {
            found.add(rows.clone());
            return;
        }
        for (int i = 0; i < sum.length; i++) {
            if (used[i] < sum[i] && (i == 0 || used[i - 1] > used[i])) {
                used[i]++;
                rows[v] = i;
                fill(sum, used, rows, v + 1, found);
                used[i]--;
            }
        }
    }

    private static void orderOfFillings() {
        PartitionPress press = new PartitionPress();
        for (int n = 0; n <= 8; n++) {
            for (int[] sum : Sums.all(n)) {
                Sums.write(press, 4, sum);
                List<int[]> fillings = all(sum);
                fillings.sort(WaysTest::compare);
                for (int x = 0; x < fillings.size(); x++) {
                    for (int v = 1; v <= n; v++) {
                        CHECK.due("21: filling " + x + " of " + java.util.Arrays.toString(sum) + ": row of " + v,
                            press.filling(4, x, v), fillings.get(x)[v - 1]);
                    }
                }
                CHECK.due("21: no more", press.filling(4, fillings.size(), 1), RANGE);
                CHECK.due("21: x below 0", press.filling(4, -1, 1), RANGE);
                CHECK.due("21: v 0", press.filling(4, 0, 0), RANGE);
                CHECK.due("21: v above n", press.filling(4, 0, n + 1), RANGE);
            }
        }
    }

    private static int compare(int[] a, int[] b) {
        for (int v = a.length - 1; v >= 0; v--) {
            if (a[v] != b[v]) {
                return a[v] - b[v];
            }
        }
        return 0;
    }

    private static void wrongFillings() {
        PartitionPress press = new PartitionPress();
        Sums.write(press, 0, 9, 8, 6, 5, 2);
        CHECK.due("20: n of 30", press.sheet(0, 0), 30);
        long ways = press.fillings(0);
        CHECK.due("21: last of 30, row of 30", press.filling(0, ways - 1, 30), 4);
        CHECK.due("21: last of 30, row of 1", press.filling(0, ways - 1, 1), 0);
        CHECK.due("21: first of 30, row of 30", press.filling(0, 0, 30), 0);
        CHECK.due("21: beyond", press.filling(0, ways, 30), RANGE);
        CHECK.due("21: far", press.filling(0, Long.MAX_VALUE, 30), RANGE);
        CHECK.due("21: far", press.filling(0, Long.MIN_VALUE, 30), RANGE);
        CHECK.due("21: no act", press.told(8), 6);
        press.part(0, 1);
        CHECK.due("20: n of 31", press.fillings(0), RANGE);
        CHECK.due("21: n of 31", press.filling(0, 0, 1), RANGE);
        for (int s : NO_SHEETS) {
            CHECK.due("20: no sheet", press.fillings(s), RANGE);
            CHECK.due("21: no sheet", press.filling(s, 0, 1), RANGE);
            CHECK.due("21: no v", press.filling(1, 0, s), RANGE);
        }
        CHECK.due("20: of no squares", press.fillings(1), 1);
        CHECK.due("21: of no squares", press.filling(1, 0, 1), RANGE);
    }

    private static void heaps() {
        PartitionPress press = new PartitionPress();
        for (int n = 0; n <= 60; n = n < 34 ? n + 1 : n + 13) {
            long[][] many = new long[2][200];
            for (int[] sum : Sums.all(n)) {
                many[0][100 + Sums.rank(sum)]++;
                many[1][100 + Sums.crank(sum)]++;
            }
            for (int kind = 0; kind <= 1; kind++) {
                for (int m = 1; m <= 60; m++) {
                    for (int r = 0; r < m; r++) {
                        long want = 0;
                        for (int i = -99; i <= 99; i++) {
                            want += Math.floorMod(i, m) == r ? many[kind][100 + i] : 0;
                        }
                        CHECK.due("22: heap(" + kind + ", " + n + ", " + m + ", " + r + ")", press.heap(kind, n, m, r), want);
                    }
                }
            }
        }
        for (int r = 0; r < 11; r++) {
            CHECK.due("22: cranks of 50 by 11", press.heap(1, 50, 11, r), 204226 / 11);
        }
        CHECK.due("22: crank of 1", press.heap(1, 1, 60, 59), 1);
        CHECK.due("22: all of 60", press.heap(0, 60, 1, 0), 966467);
        CHECK.due("22: all of 60", press.heap(1, 60, 1, 0), 966467);
        int[][] none = {{2, 5, 5, 0}, {-1, 5, 5, 0}, {0, -1, 5, 0}, {0, 61, 5, 0}, {1, 5, 0, 0}, {1, 5, 61, 0},
            {1, 5, -1, 0}, {0, 5, 5, 5}, {0, 5, 5, -1}, {0, 0, 1, 1}, {1, 0, 0, 0},
            {Integer.MIN_VALUE, 5, 5, 0}, {0, Integer.MAX_VALUE, 5, 0}, {0, 5, Integer.MIN_VALUE, 0},
            {0, 5, 5, Integer.MIN_VALUE}, {0, 5, 5, Integer.MAX_VALUE}};
        for (int[] heap : none) {
            CHECK.due("22: no such heap", press.heap(heap[0], heap[1], heap[2], heap[3]), RANGE);
        }
    }
}
