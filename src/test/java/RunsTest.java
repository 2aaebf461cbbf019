import java.util.ArrayList;
import java.util.Arrays;
import java.util.List;
import java.util.Random;

/** Long runs of mixed calls: ACTS change one SHEET and can be taken back, and nothing else changes any. */
public final class RunsTest {
    private static final Check CHECK = new Check();
    private static final int RUNS = 120;
    private static final int CALLS = 512;

    public static void main(String[] args) {
        for (int run = 0; run < RUNS; run++) {
            run(new Random(run));
        }
        CHECK.end();
    }

    private static void run(Random random) {
        PartitionPress press = new PartitionPress();
        List<int[][]> noted = new ArrayList<>();
        int[][] before = sheets(press);
        for (int call = 0; call < CALLS; call++) {
            int which = random.nextInt(16);
            if (which == 0) {
                before = undo(press, noted, before);
                continue;
            }
            Act act = call(press, which, random);
            int[][] after = sheets(press);
            for (int s = 0; s < 8; s++) {
                if (s != act.changes) {
                    CHECK.due(act.text + ": sheet " + s + " stays", after[s], before[s]);
                }
            }
            if (act.changes >= 0) {
                noted.add(before);
                CHECK.due(act.text + ": answer and sheet", act.answer, act.due(after[act.changes]));
                isSum(act.text, after[act.changes]);
            }
            if (noted.size() > 60) {
                noted.remove(0);
            }
            CHECK.due(act.text + ": told(8)", press.told(8), noted.size());
            before = after;
        }
    }

    private static int[][] undo(PartitionPress press, List<int[][]> noted, int[][] before) {
        if (noted.isEmpty()) {
            CHECK.due("undo", press.undo(), PartitionPress.NONE);
            return before;
        }
        int[][] want = noted.remove(noted.size() - 1);
        CHECK.due("undo", press.undo(), noted.size());
        int[][] after = sheets(press);
        for (int s = 0; s < 8; s++) {
            CHECK.due("undo: sheet " + s, after[s], want[s]);
        }
        return after;
    }

    private static int[][] sheets(PartitionPress press) {
        int[][] all = new int[8][];
        for (int s = 0; s < 8; s++) {
            all[s] = Sums.read(press, s);
        }
        return all;
    }

    private static void isSum(String text, int[] sum) {
        CHECK.holds(text + ": n", Sums.total(sum) <= 400);
        for (int i = 0; i < sum.length; i++) {
            CHECK.holds(text + ": parts", sum[i] >= 1 && (i == 0 || sum[i] <= sum[i - 1]));
        }
    }

    /** One call: what it answered, and the SHEET that it was to change (-1: none). */
    private static final class Act {
        final String text;
        final int answer;
        final int changes;
        /** What the answer is: 0 n, 1 how many PARTS, 2 something else. */
        final int tells;

        Act(String text, int answer, int changes, int tells) {
            this.text = text + " answered " + answer;
            this.answer = answer;
            this.changes = answer < 0 ? -1 : changes;
            this.tells = tells;
        }

        int due(int[] sum) {
            return tells == 0 ? Sums.total(sum) : tells == 1 ? sum.length : answer;
        }
    }

    private static Act call(PartitionPress press, int which, Random random) {
        int s = random.nextInt(10) - 1;
        int to = random.nextInt(10) - 1;
        int t = random.nextInt(13) + 1;
        switch (which) {
            case 1:
            case 2:
                return new Act("part", press.part(s, random.nextInt(1 + random.nextInt(130))), s, 1);
            case 3:
                return random.nextInt(5) == 0 ? new Act("clear", press.clear(s), s, 2) : new Act("copy", press.copy(s, to), to, 0);
            case 4: {
                int answer = press.next(s);
                return new Act("next", answer, answer == 1 ? s : -1, 2);
            }
            case 5: {
                int kind = random.nextInt(7);
                int a = random.nextInt(13);
                int b = random.nextInt(200);
                int answer = press.law(random.nextInt(8), kind, kind == 0 || kind == 4 ? 0 : a,
                    kind == 1 ? b : kind == 2 ? b % 13 : kind == 3 ? b % 61 : 0, kind == 1 || kind == 2 ? b % 6 : 0, kind == 2 ? 1 : 0);
                return new Act("law", answer, -1, 2);
            }
            case 6:
            case 7:
            case 8: {
                int l = random.nextInt(8);
                int n = random.nextInt(random.nextInt(401) + 1);
                long many = Math.max(1, press.count(l, n));
                long rank = Math.floorMod(random.nextLong(), many);
                int answer = press.tell(l, n, rank, s);
                if (answer >= 0) {
                    CHECK.due("rank", press.rank(l, s), rank);
                    CHECK.due("clash", press.clash(l, s), PartitionPress.NONE);
                }
                return new Act("tell", answer, s, 1);
            }
            case 9: {
                int kind = random.nextInt(5) + 1;
                return new Act("lead " + kind, press.lead(kind, kind == 1 ? t : 0, s, to), to, 1);
            }
            case 10: {
                int kind = random.nextInt(5) + 1;
                return new Act("back " + kind, press.back(kind, kind == 1 ? t : 0, s, to), to, 1);
            }
            case 11:
                return new Act("core", press.core(t, s, to), to, 0);
            case 12:
                return new Act("quotient", press.quotient(t, random.nextInt(t), s, to), to, 0);
            case 13:
                return new Act("join", press.join(t, s, to), s, 0);
            case 14: {
                int answer = press.peel(t, s);
                return new Act("peel", answer, answer == 1 ? s : -1, 2);
            }
            default:
                return new Act("asked", Math.min(0, (int) press.fillings(s)), -1, 2);
        }
    }
}
