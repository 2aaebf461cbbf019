/** Promises 23 to 30: one, factors, signs, counts, combine, series, same, told. */
public final class SeriesTest {
    private static final int RANGE = PartitionPress.RANGE;
    private static final int[] NO_SERIES = {-1, 4, Integer.MIN_VALUE, Integer.MAX_VALUE};
    private static final Check CHECK = new Check();

    public static void main(String[] args) {
        ones();
        factors();
        signs();
        counts();
        combines();
        reads();
        sames();
        tolds();
        CHECK.end();
    }

    private static void due(String what, PartitionPress press, int x, long[] want) {
        for (int i = 0; i <= 400; i++) {
            CHECK.due(what + ", place " + i, press.series(x, i), want[i]);
        }
    }

    private static long[] read(PartitionPress press, int x) {
        long[] row = new long[401];
        for (int i = 0; i <= 400; i++) {
            row[i] = press.series(x, i);
        }
        return row;
    }

    private static long[] one() {
        long[] row = new long[401];
        row[0] = 1;
        return row;
    }

    private static void ones() {
        PartitionPress press = new PartitionPress();
        press.counts(2, 0);
        CHECK.due("23: one", press.one(2), 1);
        due("23: one", press, 2, one());
        for (int x : NO_SERIES) {
            CHECK.due("23: no series", press.one(x), RANGE);
        }
        CHECK.due("23: no act", press.told(8), 0);
    }

    private static void multiply(long[] row, int m, int r, int e) {
        for (int k = 1; k <= 400; k++) {
            for (int i = 0; k % m == r && i < Math.abs(e); i++) {
                for (int j = k; j <= 400 && e < 0; j++) {
                    row[j] += row[j - k];
                }
                for (int j = 400; j >= k && e > 0; j--) {
                    row[j] -= row[j - k];
                }
            }
        }
    }

    private static void factors() {
        PartitionPress press = new PartitionPress();
        int[][] products = {{1, 0, 20}, {1, 0, -20}, {1, 0, 1}, {1, 0, -1}, {2, 1, 7}, {2, 0, -13}, {5, 1, -1}, {7, 3, 20},
            {400, 0, 1}, {400, 399, -20}, {400, 1, 20}, {399, 1, -3}, {12, 0, 12}, {3, 2, 0}, {200, 200 - 1, 2}};
        for (int[] p : products) {
            press.one(1);
            long[] row = one();
            CHECK.due("24: factors", press.factors(1, p[0], p[1], p[2]), 1);
            multiply(row, p[0], p[1], p[2]);
            due("24: factors " + java.util.Arrays.toString(p), press, 1, row);
            CHECK.due("24: over themselves", press.factors(1, p[0], p[1], -p[2]), 1);
            due("24: factors over themselves", press, 1, one());
        }
        long[] row = one();
        press.one(1);
        for (int[] p : products) {
            press.factors(1, p[0], p[1], p[2]);
            multiply(row, p[0], p[1], p[2]);
            due("24: factors of a series", press, 1, row);
        }
        press.one(0);
        press.factors(0, 1, 0, 3);
        for (int i = 0, k = 0; i <= 400; k++, i += k) {
            CHECK.due("24: the third power", press.series(0, i), (k % 2 == 0 ? 1 : -1) * (2 * k + 1));
        }
        press.one(0);
        int[][] none = {{0, 0, 1}, {401, 0, 1}, {-1, 0, 1}, {5, 5, 1}, {5, -1, 1}, {5, 0, 21}, {5, 0, -21},
            {Integer.MIN_VALUE, 0, 1}, {Integer.MAX_VALUE, 0, 1}, {5, Integer.MIN_VALUE, 1}, {5, Integer.MAX_VALUE, 1},
            {5, 0, Integer.MIN_VALUE}, {5, 0, Integer.MAX_VALUE}};
        for (int[] p : none) {
            CHECK.due("24: no factors", press.factors(0, p[0], p[1], p[2]), RANGE);
        }
        for (int x : NO_SERIES) {
            CHECK.due("24: no series", press.factors(x, 1, 0, 1), RANGE);
        }
        due("24: refused", press, 0, one());
    }

    private static void signs() {
        PartitionPress press = new PartitionPress();
        for (int a = -1; a <= 102; a++) {
            for (int b = -104; b <= 104; b++) {
                boolean good = a >= 1 && a <= 100 && b > -a && b < a && (a + b) % 2 == 0;
                press.one(3);
                CHECK.due("25: signs(3, " + a + ", " + b + ")", press.signs(3, a, b), good ? 1 : RANGE);
                if (!good) {
                    CHECK.due("25: refused", press.series(3, 0), 1);
                    continue;
                }
                long[] want = new long[401];
                for (long k = -500; k <= 500; k++) {
                    long place = (a * k * k + b * k) / 2;
                    if (place <= 400) {
                        want[(int) place] += k % 2 == 0 ? 1 : -1;
                    }
                }
                due("25: signs " + a + ", " + b, press, 3, want);
            }
        }
        for (int far : new int[] {Integer.MIN_VALUE, Integer.MAX_VALUE}) {
            CHECK.due("25: far", press.signs(3, far, 1), RANGE);
            CHECK.due("25: far", press.signs(3, 3, far), RANGE);
            CHECK.due("25: far", press.signs(3, far, far), RANGE);
        }
        for (int x : NO_SERIES) {
            CHECK.due("25: no series", press.signs(x, 3, 1), RANGE);
        }
    }

    private static void counts() {
        PartitionPress press = new PartitionPress();
        press.law(1, 1, 5, 18, 2, 0);
        press.law(2, 2, 2, 3, 1, 1);
        press.law(3, 3, 7, 8, 0, 0);
        press.law(4, 4, 0, 0, 0, 0);
        press.law(5, 5, 5, 0, 0, 0);
        for (int l = 0; l <= 5; l++) {
            press.one(0);
            press.factors(0, 1, 0, -20);
            press.combine(1, 0, 0);
            CHECK.due("26: counts", press.counts(0, l), 1);
            for (int n = 0; n <= 400; n++) {
                long want = l == 3 && n > 60 ? 0 : press.count(l, n);
                CHECK.due("26: counts of law " + l + " at " + n, press.series(0, n), want);
            }
        }
        press.one(0);
        for (int none : NO_SERIES) {
            CHECK.due("26: no series", press.counts(none, 0), RANGE);
        }
        for (int none : new int[] {-1, 8, Integer.MIN_VALUE, Integer.MAX_VALUE}) {
            CHECK.due("26: no law", press.counts(0, none), RANGE);
        }
        due("26: refused", press, 0, one());
    }

    private static void combines() {
        PartitionPress press = new PartitionPress();
        for (int y = 0; y <= 1; y++) {
            for (int kind = 0; kind <= 2; kind++) {
                press.counts(0, 0);
                press.signs(1, 3, 1);
                press.factors(1, 2, 1, -9);
                press.combine(1, 0, 0);
                press.combine(1, 1, 0);
                long[] a = read(press, 0);
                long[] b = read(press, y);
                CHECK.due("27: combine", press.combine(kind, 0, y), 1);
                due("27: combine " + kind, press, 0, combined(kind, a, b));
                if (y == 1) {
                    due("27: y stays", press, 1, b);
                }
            }
        }
        for (int places : new int[] {0, 1, 7, 399, 400}) {
            press.counts(0, 0);
            long[] was = read(press, 0);
            CHECK.due("27: move", press.combine(3, 0, places), 1);
            for (int i = 0; i <= 400; i++) {
                CHECK.due("27: moved by " + places, press.series(0, i), i < places ? 0 : was[i - places]);
            }
        }
        wrongCombines();
    }

    private static long[] combined(int kind, long[] a, long[] b) {
        long[] row = new long[401];
        for (int i = 0; i <= 400; i++) {
            for (int j = 0; j <= i && kind == 0; j++) {
                row[i] += a[j] * b[i - j];
            }
            if (kind > 0) {
                row[i] = kind == 1 ? a[i] + b[i] : a[i] - b[i];
            }
        }
        return row;
    }

    private static void wrongCombines() {
        PartitionPress press = new PartitionPress();
        press.one(0);
        for (int none : NO_SERIES) {
            for (int kind = 0; kind <= 2; kind++) {
                CHECK.due("27: no x", press.combine(kind, none, 0), RANGE);
                CHECK.due("27: no y", press.combine(kind, 0, none), RANGE);
            }
            CHECK.due("27: no x", press.combine(3, none, 0), RANGE);
            CHECK.due("27: no kind", press.combine(none, 0, 0), RANGE);
        }
        for (int none : new int[] {-1, 401, Integer.MIN_VALUE, Integer.MAX_VALUE}) {
            CHECK.due("27: no such move", press.combine(3, 0, none), RANGE);
        }
        due("27: refused", press, 0, one());
        CHECK.due("27: no act", press.told(8), 0);
    }

    private static void reads() {
        PartitionPress press = new PartitionPress();
        press.one(3);
        CHECK.due("28: place 0", press.series(3, 0), 1);
        CHECK.due("28: place 400", press.series(3, 400), 0);
        for (int none : NO_SERIES) {
            CHECK.due("28: no series", press.series(none, 0), Long.MIN_VALUE);
        }
        for (int none : new int[] {-1, 401, Integer.MIN_VALUE, Integer.MAX_VALUE}) {
            CHECK.due("28: no place", press.series(3, none), Long.MIN_VALUE);
        }
    }

    private static void sames() {
        PartitionPress press = new PartitionPress();
        CHECK.due("29: alike", press.same(0, 1), PartitionPress.NONE);
        for (int place : new int[] {0, 1, 200, 400}) {
            press.one(0);
            press.combine(3, 0, place);
            CHECK.due("29: part", press.same(0, 1), place);
            CHECK.due("29: part", press.same(1, 0), place);
            CHECK.due("29: with itself", press.same(0, 0), PartitionPress.NONE);
        }
        for (int none : NO_SERIES) {
            CHECK.due("29: no x", press.same(none, 0), RANGE);
            CHECK.due("29: no y", press.same(0, none), RANGE);
        }
    }

    private static void tolds() {
        PartitionPress press = new PartitionPress();
        press.law(6, 4, 0, 0, 0, 0);
        press.law(7, 5, 12, 0, 0, 0);
        for (int i = 0; i < 8; i++) {
            CHECK.due("30: told " + i, press.told(i), i == 6 ? 4 : i == 7 ? 5 : 0);
        }
        press.clear(0);
        press.next(0);
        press.clear(9);
        CHECK.due("30: acts", press.told(8), 1);
        for (int none : new int[] {-1, 9, Integer.MIN_VALUE, Integer.MAX_VALUE}) {
            CHECK.due("30: others", press.told(none), PartitionPress.NONE);
        }
    }
}
