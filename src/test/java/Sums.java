import java.util.ArrayList;
import java.util.List;

/** SUMS as rows of numbers, all that is asked of them found the long way by the words of the document. */
final class Sums {
    private Sums() {
    }

    /** All SUMS of n by ORDER. */
    static List<int[]> all(int n) {
        List<int[]> found = new ArrayList<>();
        collect(n, n, new int[n], 0, found);
        return found;
    }

    private static void collect(int rest, int most, int[] row, int size, List<int[]> found) {
        if (rest == 0) {
            found.add(java.util.Arrays.copyOf(row, size));
            return;
        }
        for (int v = Math.min(rest, most); v >= 1; v--) {
            row[size] = v;
            collect(rest - v, v, row, size + 1, found);
        }
    }

    static int total(int[] sum) {
        int n = 0;
        for (int v : sum) {
            n += v;
        }
        return n;
    }

    static int at(int[] sum, int i) {
        return i < sum.length ? sum[i] : 0;
    }

    /** Writes a SUM on a SHEET by clear() and part(). */
    static void write(PartitionPress press, int s, int... sum) {
        press.clear(s);
        for (int v : sum) {
            press.part(s, v);
        }
    }

    /** Reads a SHEET by sheet(). */
    static int[] read(PartitionPress press, int s) {
        int[] sum = new int[press.sheet(s, 1)];
        for (int i = 0; i < sum.length; i++) {
            sum[i] = press.sheet(s, 100 + i);
        }
        return sum;
    }

    static int[] turned(int[] sum) {
        int[] columns = new int[at(sum, 0)];
        for (int v : sum) {
            for (int j = 0; j < v; j++) {
                columns[j]++;
            }
        }
        return columns;
    }

    static int hook(int[] sum, int i, int j) {
        return sum[i] - j + turned(sum)[j] - i - 1;
    }

    static int rank(int[] sum) {
        return at(sum, 0) - sum.length;
    }

    static int crank(int[] sum) {
        int ones = 0;
        for (int v : sum) {
            ones += v == 1 ? 1 : 0;
        }
        int above = 0;
        for (int v : sum) {
            above += v > ones ? 1 : 0;
        }
        return ones == 0 ? at(sum, 0) : above - ones;
    }

    static boolean isUnlike(int[] sum) {
        for (int i = 1; i < sum.length; i++) {
            if (sum[i] == sum[i - 1]) {
                return false;
            }
        }
        return true;
    }

    static boolean isOdd(int[] sum) {
        for (int v : sum) {
            if (v % 2 == 0) {
                return false;
            }
        }
        return true;
    }

    static int times(int[] sum, int v) {
        int many = 0;
        for (int p : sum) {
            many += p == v ? 1 : 0;
        }
        return many;
    }

    /** What clash() is to answer: law is kind, a, b, c, d. */
    static int clash(int[] law, int[] sum) {
        int[] columns = turned(sum);
        for (int i = 0; i < sum.length; i++) {
            if (clashesAt(law, sum, columns, i)) {
                return i;
            }
        }
        return PartitionPress.NONE;
    }

    private static boolean clashesAt(int[] law, int[] sum, int[] columns, int i) {
        switch (law[0]) {
            case 1: {
                int like = 0;
                for (int j = 0; j <= i; j++) {
                    like += sum[j] == sum[i] ? 1 : 0;
                }
                return (law[2] >> (sum[i] % law[1]) & 1) == 0 || law[3] > 0 && like > law[3];
            }
            case 2: {
                boolean near = i > 0 && sum[i - 1] - sum[i] < law[1] + (sum[i - 1] % law[2] == 0 ? law[3] : 0);
                return near || i == sum.length - 1 && sum[i] < law[4];
            }
            case 3:
                return i >= law[1] || sum[i] > law[2];
            case 4:
                return i >= columns.length || columns[i] != sum[i];
            case 5: {
                for (int j = 0; j < sum[i]; j++) {
                    if (sum[i] - j + columns[j] - i - 1 == law[1]) {
                        return true;
                    }
                }
                return false;
            }
            default:
                return false;
        }
    }

    /** Without the HOOK of t of the first row that has one, taken along the rim; null if there is none. */
    static int[] peeled(int[] sum, int t) {
        for (int i = 0; i < sum.length; i++) {
            for (int j = 0; j < sum[i]; j++) {
                if (hook(sum, i, j) == t) {
                    int low = turned(sum)[j] - 1;
                    int[] left = sum.clone();
                    for (int row = i; row < low; row++) {
                        left[row] = sum[row + 1] - 1;
                    }
                    left[low] = j;
                    return trimmed(left);
                }
            }
        }
        return null;
    }

    static int[] trimmed(int[] sum) {
        int size = 0;
        while (size < sum.length && sum[size] > 0) {
            size++;
        }
        return java.util.Arrays.copyOf(sum, size);
    }

    static int[] sorted(List<Integer> parts) {
        parts.sort(java.util.Comparator.reverseOrder());
        int[] sum = new int[parts.size()];
        for (int i = 0; i < sum.length; i++) {
            sum[i] = parts.get(i);
        }
        return sum;
    }
}
