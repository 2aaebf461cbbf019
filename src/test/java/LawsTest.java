import java.util.ArrayList;
import java.util.List;

/** Promises 9 to 13: law, clash, count, rank, tell. */
public final class LawsTest {
    private static final int RANGE = PartitionPress.RANGE;
    private static final Check CHECK = new Check();

    /** kind, a, b, c, d. */
    private static final int[][] LAWS = {
        {0, 0, 0, 0, 0},
        {1, 1, 1, 0, 0}, {1, 1, 1, 1, 0}, {1, 1, 4095, 2, 0}, {1, 2, 2, 0, 0}, {1, 2, 2, 1, 0}, {1, 2, 2, 3, 0},
        {1, 3, 6, 0, 0}, {1, 5, 18, 0, 0}, {1, 6, 34, 4, 0}, {1, 12, 2730, 2, 0}, {1, 12, 4095, 400, 0},
        {1, 4, 0, 0, 0}, {1, 3, 4088, 0, 0}, {1, 3, 1, 5, 0}, {1, 7, 85, 1, 0},
        {2, 0, 1, 0, 1}, {2, 1, 1, 0, 1}, {2, 2, 1, 0, 1}, {2, 2, 1, 0, 2}, {2, 3, 3, 1, 1}, {2, 0, 2, 1, 1},
        {2, 0, 3, 5, 3}, {2, 1, 12, 5, 20}, {2, 20, 12, 5, 1}, {2, 20, 1, 5, 20}, {2, 2, 2, 2, 1}, {2, 0, 1, 0, 4},
        {2, 0, 1, 1, 1}, {2, 5, 4, 3, 7},
        {3, 0, 0, 0, 0}, {3, 0, 60, 0, 0}, {3, 60, 0, 0, 0}, {3, 3, 4, 0, 0}, {3, 60, 60, 0, 0}, {3, 1, 60, 0, 0},
        {3, 60, 1, 0, 0}, {3, 5, 7, 0, 0}, {3, 10, 3, 0, 0}, {3, 4, 20, 0, 0},
        {4, 0, 0, 0, 0},
        {5, 2, 0, 0, 0}, {5, 3, 0, 0, 0}, {5, 4, 0, 0, 0}, {5, 5, 0, 0, 0}, {5, 7, 0, 0, 0}, {5, 12, 0, 0, 0}};

    private static final int[][] NO_LAWS = {
        {-1, 0, 0, 0, 0}, {6, 0, 0, 0, 0}, {0, 1, 0, 0, 0}, {0, 0, 1, 0, 0}, {0, 0, 0, 1, 0}, {0, 0, 0, 0, 1},
        {1, 0, 1, 0, 0}, {1, 13, 1, 0, 0}, {1, 1, -1, 0, 0}, {1, 1, 4096, 0, 0}, {1, 1, 1, -1, 0}, {1, 1, 1, 401, 0},
        {1, 1, 1, 0, 1}, {2, -1, 1, 0, 1}, {2, 21, 1, 0, 1}, {2, 0, 0, 0, 1}, {2, 0, 13, 0, 1}, {2, 0, 1, -1, 1},
        {2, 0, 1, 6, 1}, {2, 0, 1, 0, 0}, {2, 0, 1, 0, 21}, {3, -1, 0, 0, 0}, {3, 61, 0, 0, 0}, {3, 0, -1, 0, 0},
        {3, 0, 61, 0, 0}, {3, 0, 0, 1, 0}, {3, 0, 0, 0, 1}, {4, 1, 0, 0, 0}, {4, 0, 1, 0, 0}, {4, 0, 0, 1, 0},
        {4, 0, 0, 0, 1}, {5, 1, 0, 0, 0}, {5, 13, 0, 0, 0}, {5, 2, 1, 0, 0}, {5, 2, 0, 1, 0}, {5, 2, 0, 0, 1}};

    public static void main(String[] args) {
        laws();
        for (int[] law : LAWS) {
            for (int n = 0; n <= 22; n++) {
                countsAndRanks(law, n);
            }
            farRanks(law);
        }
        farCounts();
        fewFar();
        changedLaw();
        wrongInputs();
        CHECK.end();
    }

    private static int set(PartitionPress x, int l, int[] law) {
        return x.law(l, law[0], law[1], law[2], law[3], law[4]);
    }

    private static void laws() {
        PartitionPress x = new PartitionPress();
        int was = 0;
        for (int[] law : LAWS) {
            CHECK.due("9: law", set(x, 7, law), was);
            was = law[0];
            CHECK.due("9: told", x.told(7), was);
            for (int[] none : NO_LAWS) {
                CHECK.due("9: no law " + java.util.Arrays.toString(none), set(x, 7, none), RANGE);
            }
            CHECK.due("9: told stays", x.told(7), was);
            CHECK.due("9: no act", x.told(8), 0);
        }
        CHECK.due("9: others stay", x.told(6), 0);
        CHECK.due("9: no law 8", set(x, 8, LAWS[0]), RANGE);
        CHECK.due("9: no law -1", set(x, -1, LAWS[0]), RANGE);
        x.law(2, 3, 4, 4, 0, 0);
        for (int[] none : NO_LAWS) {
            set(x, 2, none);
            CHECK.due("9: the refused law is the one it was", x.count(2, 8), 8);
        }
    }

    private static void countsAndRanks(int[] law, int n) {
        PartitionPress x = new PartitionPress();
        set(x, 3, law);
        String of = java.util.Arrays.toString(law) + " of " + n;
        List<int[]> allowed = new ArrayList<>();
        for (int[] sum : Sums.all(n)) {
            Sums.write(x, 0, sum);
            int clash = Sums.clash(law, sum);
            CHECK.due("10: clash " + of + java.util.Arrays.toString(sum), x.clash(3, 0), clash);
            if (law[0] > 3) {
                CHECK.due("12: rank by another kind", x.rank(3, 0), RANGE);
            } else {
                CHECK.due("12: rank " + of, x.rank(3, 0), clash == PartitionPress.NONE ? allowed.size() : PartitionPress.KIND);
            }
            if (clash == PartitionPress.NONE) {
                allowed.add(sum);
            }
        }
        CHECK.due("11: count " + of, x.count(3, n), allowed.size());
        Sums.write(x, 5, 3, 2);
        int acts = x.told(8);
        CHECK.due("13: rank too great " + of, x.tell(3, n, allowed.size(), 5), RANGE);
        CHECK.due("13: rank below 0 " + of, x.tell(3, n, -1, 5), RANGE);
        CHECK.due("13: refused: no act", x.told(8), acts);
        CHECK.due("13: refused", Sums.read(x, 5), new int[] {3, 2});
        for (int i = 0; i < allowed.size(); i++) {
            if (law[0] > 3) {
                CHECK.due("13: another kind", x.tell(3, n, i, 5), RANGE);
            } else {
                CHECK.due("13: tell " + of, x.tell(3, n, i, 5), allowed.get(i).length);
                CHECK.due("13: sum " + i + " by " + of, Sums.read(x, 5), allowed.get(i));
            }
        }
    }

    /** SUMS of up to 400: told, allowed, ranked, and in ORDER. */
    private static void farRanks(int[] law) {
        if (law[0] > 3) {
            return;
        }
        PartitionPress x = new PartitionPress();
        set(x, 3, law);
        for (int n : law[0] == 3 ? new int[] {35, 47, 60} : new int[] {61, 150, 399, 400}) {
            long many = x.count(3, n);
            int[] ahead = null;
            for (int i = 0; i < 12 && many > 0; i++) {
                long rank = i < 11 ? many / 11 * i : many - 1;
                if (x.tell(3, n, rank, 1) < 0) {
                    CHECK.due("13: tell " + rank + " of " + n, x.tell(3, n, rank, 1), 0);
                    continue;
                }
                CHECK.due("13: n", x.sheet(1, 0), n);
                CHECK.due("13: allowed", x.clash(3, 1), PartitionPress.NONE);
                CHECK.due("12: rank", x.rank(3, 1), rank);
                int[] sum = Sums.read(x, 1);
                CHECK.holds("13: order", ahead == null || rank == 0 || java.util.Arrays.compare(ahead, sum) >= 0);
                ahead = sum;
            }
            CHECK.due("13: no more", x.tell(3, n, many, 1), RANGE);
        }
        if (law[0] == 0) {
            long rank = x.count(3, 400) / 3;
            x.tell(3, 400, rank, 1);
            for (int i = 1; i <= 30; i++) {
                x.next(1);
                CHECK.due("12: rank of the next", x.rank(3, 1), rank + i);
            }
        }
    }

    private static void farCounts() {
        PartitionPress x = new PartitionPress();
        CHECK.due("11: sums of 400", x.count(0, 400), 6727090051741041926L);
        CHECK.due("11: sums of 200", x.count(0, 200), 3972999029388L);
        x.law(1, 5, 2, 0, 0, 0);
        for (int n = 0; n <= 400; n++) {
            int k = 0;
            while (k * (k + 1) / 2 < n) {
                k++;
            }
            CHECK.due("11: cores by 2 are stairs, of " + n, x.count(1, n), k * (k + 1) / 2 == n ? 1 : 0);
        }
        x.law(2, 1, 2, 2, 1, 0);
        x.law(3, 4, 0, 0, 0, 0);
        for (int n = 0; n <= 400; n++) {
            CHECK.due("11: own ones are as many as unlike odd ones, of " + n, x.count(3, n), x.count(2, n));
        }
        x.law(4, 2, 1, 1, 0, 1);
        x.law(5, 1, 2, 2, 0, 0);
        x.law(6, 1, 1, 1, 1, 0);
        for (int n : new int[] {400, 0, 399, 61}) {
            CHECK.due("11: unlike by gaps, of " + n, x.count(4, n), x.count(5, n));
            CHECK.due("11: unlike by times, of " + n, x.count(6, n), x.count(5, n));
        }
    }

    private static void fewFar() {
        PartitionPress x = new PartitionPress();
        for (int p = 0; p <= 10; p++) {
            for (int q = 0; p * q <= 60 && q <= 60; q++) {
                x.law(0, 3, p, q, 0, 0);
                long all = 0;
                for (int n = 0; n <= 60; n++) {
                    all += x.count(0, n);
                }
                CHECK.due("11: few " + p + ", " + q, all, choose(p + q, p));
            }
        }
        x.law(0, 3, 60, 60, 0, 0);
        CHECK.due("11: few that allows all of 60", x.count(0, 60), 966467);
        CHECK.due("11: few of 61", x.count(0, 61), RANGE);
        CHECK.due("13: few of 61", x.tell(0, 61, 0, 0), RANGE);
        Sums.write(x, 0, 40, 21);
        CHECK.due("12: few of 61", x.rank(0, 0), RANGE);
        CHECK.due("10: few of 61: n is not asked", x.clash(0, 0), PartitionPress.NONE);
        x.law(0, 3, 60, 39, 0, 0);
        CHECK.due("10: few of 61: above q", x.clash(0, 0), 0);
        x.law(0, 3, 1, 40, 0, 0);
        CHECK.due("10: few of 61: one too many", x.clash(0, 0), 1);
    }

    private static long choose(int n, int k) {
        long many = 1;
        for (int i = 1; i <= k; i++) {
            many = many * (n - k + i) / i;
        }
        return many;
    }

    /** What was known of the law that it was must not be taken for the new one. */
    private static void changedLaw() {
        PartitionPress x = new PartitionPress();
        for (int turn = 0; turn < 2; turn++) {
            for (int[] law : LAWS) {
                set(x, 0, law);
                PartitionPress fresh = new PartitionPress();
                set(fresh, 1, law);
                for (int n : new int[] {20, 60, 7}) {
                    x.clear(2);
                    fresh.clear(2);
                    CHECK.due("11: count by a changed law", x.count(0, n), fresh.count(1, n));
                    CHECK.due("13: tell by a changed law", x.tell(0, n, 0, 2), fresh.tell(1, n, 0, 2));
                    CHECK.due("12: rank by a changed law", x.rank(0, 2), fresh.rank(1, 2));
                    CHECK.due("11: count by another law", x.count(1, n), new PartitionPress().count(0, n));
                }
            }
        }
    }

    private static void wrongInputs() {
        PartitionPress x = new PartitionPress();
        for (int none : new int[] {-1, 8, Integer.MIN_VALUE, Integer.MAX_VALUE}) {
            CHECK.due("10: no law", x.clash(none, 0), RANGE);
            CHECK.due("10: no sheet", x.clash(0, none), RANGE);
            CHECK.due("11: no law", x.count(none, 0), RANGE);
            CHECK.due("12: no law", x.rank(none, 0), RANGE);
            CHECK.due("12: no sheet", x.rank(0, none), RANGE);
            CHECK.due("13: no law", x.tell(none, 5, 0, 0), RANGE);
            CHECK.due("13: no sheet", x.tell(0, 5, 0, none), RANGE);
        }
        for (int none : new int[] {-1, 401, Integer.MIN_VALUE, Integer.MAX_VALUE}) {
            CHECK.due("11: no n", x.count(0, none), RANGE);
            CHECK.due("13: no n", x.tell(0, none, 0, 0), RANGE);
        }
        CHECK.due("13: least long", x.tell(0, 400, Long.MIN_VALUE, 0), RANGE);
        CHECK.due("13: greatest long", x.tell(0, 400, Long.MAX_VALUE, 0), RANGE);
        CHECK.due("13: no act", x.told(8), 0);
        CHECK.due("13: tell", x.tell(0, 400, 6727090051741041925L, 0), 400);
        CHECK.due("13: an act", x.told(8), 1);
        CHECK.due("13: taken back", x.undo(), 0);
        CHECK.due("13: n", x.sheet(0, 0), 0);
        CHECK.due("13: of 0", x.tell(0, 0, 0, 0), 0);
    }
}
