import java.util.ArrayList;
import java.util.List;

/**
 * What the tests of single sentences share: presses with something on them, and what is asked of
 * ACTS and of refused calls. No press is used for more than 512 calls.
 */
final class Desk {
    static final long ALL_OF_400 = 6727090051741041926L;
    static final int[] NO_SHEETS = {-1, 8, Integer.MIN_VALUE, Integer.MAX_VALUE};
    static final int[] NO_LAWS = {-1, 8, Integer.MIN_VALUE, Integer.MAX_VALUE};
    static final int[] NO_SERIES = {-1, 4, Integer.MIN_VALUE, Integer.MAX_VALUE};

    private Desk() {
    }

    interface Call {
        long on(PartitionPress press);
    }

    /** A new press with a SUM on SHEET 0, each PART an ACT. */
    static PartitionPress with(int... parts) {
        PartitionPress press = new PartitionPress();
        put(press, 0, parts);
        return press;
    }

    /** PARTS behind those of a SHEET. */
    static void put(PartitionPress press, int s, int... parts) {
        for (int v : parts) {
            press.part(s, v);
        }
    }

    /** SHEET s gets the SUM of n that has n PARTS. */
    static void putOnes(PartitionPress press, int n, int s) {
        press.tell(0, n, press.count(0, n) - 1, s);
    }

    static int[] ones(int n) {
        int[] sum = new int[n];
        java.util.Arrays.fill(sum, 1);
        return sum;
    }

    /** A press with all kinds of SUMS, LAWS and SERIES: an empty SHEET is 2, full ones are 1 and 7. */
    static PartitionPress laid() {
        PartitionPress press = with(5, 4, 1);
        press.tell(0, 400, 0, 1);
        put(press, 3, 3, 2, 1);
        put(press, 4, 2, 2, 1, 1);
        put(press, 5, 16, 15);
        put(press, 6, 31, 30);
        press.tell(0, 400, ALL_OF_400 - 1, 7);
        press.law(1, 1, 2, 2, 0, 0);
        press.law(2, 2, 2, 1, 0, 1);
        press.law(3, 3, 3, 4, 0, 0);
        press.law(4, 4, 0, 0, 0, 0);
        press.law(5, 5, 3, 0, 0, 0);
        press.law(6, 1, 1, 1, 1, 0);
        press.law(7, 3, 60, 60, 0, 0);
        press.counts(0, 0);
        press.counts(1, 0);
        press.signs(2, 3, 1);
        press.signs(3, 3, 1);
        return press;
    }

    /** Calls on the press that was laid, each refused with this answer: it then is as one without these calls. */
    static void refused(Check check, long answer, Call... calls) {
        PartitionPress press = laid();
        for (int i = 0; i < calls.length; i++) {
            check.due("refused call " + i, calls[i].on(press), answer);
        }
        List<Long> want = tellAll(laid());
        List<Long> got = tellAll(press);
        check.due("refused calls: what is told then", got.size(), want.size());
        for (int i = 0; i < Math.min(got.size(), want.size()); i++) {
            check.due("refused calls: number " + i + " that is told then", got.get(i), want.get(i));
        }
    }

    /** Of SERIES 0 and 1, and of 2 and 3, one is laid as the other: so same() tells if one alone has changed. */
    private static List<Long> tellAll(PartitionPress press) {
        List<Long> all = new ArrayList<>();
        for (int s = 0; s < 8; s++) {
            for (int what : new int[] {0, 1, 100, 101, 102, 103, 99 + press.sheet(s, 1)}) {
                all.add((long) press.sheet(s, what));
            }
        }
        for (int l = 0; l < 8; l++) {
            all.add((long) press.told(l));
            all.add(press.count(l, 12));
            all.add(press.count(l, 60));
        }
        for (int x = 0; x < 4; x++) {
            all.add(press.series(x, 0));
            all.add(press.series(x, 12));
            all.add(press.series(x, 400));
            all.add((long) press.same(x, x ^ 1));
        }
        all.add((long) press.told(8));
        for (int i = 0; i < 20; i++) {
            all.add((long) press.undo());
            for (int s = 0; s < 8; s++) {
                all.add((long) press.sheet(s, 0));
            }
        }
        return all;
    }

    /** A call that is an ACT: it is noted, changes no other SHEET, and undo() gives SHEET s what it had. */
    static void act(Check check, PartitionPress press, int s, long answer, Call call) {
        int noted = press.told(8);
        int[] was = Sums.read(press, s);
        int[] sizes = sizes(press, s);
        check.due("the ACT", call.on(press), answer);
        check.due("told(8) then", press.told(8), noted + 1);
        check.due("the other SHEETS", sizes(press, s), sizes);
        check.due("undo()", press.undo(), noted);
        check.due("taken back", Sums.read(press, s), was);
        check.due("told(8) at last", press.told(8), noted);
    }

    /** A call that is none: nothing is noted, and SHEET s stays. */
    static void noAct(Check check, PartitionPress press, int s, long answer, Call call) {
        int noted = press.told(8);
        int[] was = Sums.read(press, s);
        check.due("no ACT", call.on(press), answer);
        check.due("told(8) then", press.told(8), noted);
        check.due("it stays", Sums.read(press, s), was);
    }

    private static int[] sizes(PartitionPress press, int but) {
        int[] sizes = new int[8];
        for (int s = 0; s < 8; s++) {
            sizes[s] = s == but ? 0 : press.sheet(s, 0);
        }
        return sizes;
    }
}
