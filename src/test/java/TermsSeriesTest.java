import java.io.IOException;
import java.math.BigInteger;
import java.nio.charset.StandardCharsets;
import java.nio.file.Files;
import java.nio.file.Path;

/** The sentences of "Terms", III: SERIES and ACTS; and where the interface says what the calls are of. */
public final class TermsSeriesTest {
    private static final int NONE = PartitionPress.NONE;
    private static final int RANGE = PartitionPress.RANGE;

    private TermsSeriesTest() {
    }

    public static void main(String[] args) {
        Sentences.run(TermsSeriesTest.class);
    }

    /** SERIES 0 of a new press is 1 at place 0. */
    private static PartitionPress one() {
        PartitionPress press = new PartitionPress();
        press.one(0);
        return press;
    }

    /** All places of SERIES 0 are as told, the others than those named are 0: place, number, place, number .. */
    private static void due(Check check, String what, PartitionPress press, long... placed) {
        long[] want = new long[401];
        for (int i = 0; i < placed.length; i += 2) {
            want[(int) placed[i]] = placed[i + 1];
        }
        for (int place = 0; place <= 400; place++) {
            check.due(what + ", place " + place, press.series(0, place), want[place]);
        }
    }

    @Sentence(section = "Terms", words = "III. SERIES 0 .. 3 are rows of 401 numbers")
    static void thereAreSeries0To3(Check check) {
        for (int x : new int[] {0, 3}) {
            PartitionPress press = new PartitionPress();
            check.due("one", press.one(x), 1);
            check.due("series", press.series(x, 0), 1);
            check.due("factors", press.factors(x, 1, 0, 1), 1);
            check.due("signs", press.signs(x, 3, 1), 1);
            check.due("counts", press.counts(x, 0), 1);
            check.due("combine as x", press.combine(0, x, 1), 1);
            check.due("combine as y", press.combine(0, 1, x), 1);
            check.due("moved", press.combine(3, x, 1), 1);
            check.due("same as x", press.same(x, 1), NONE);
            check.due("same as y", press.same(1, x), NONE);
        }
        for (int x : Desk.NO_SERIES) {
            Desk.refused(check, RANGE, p -> p.one(x), p -> p.factors(x, 1, 0, 1), p -> p.signs(x, 3, 1), p -> p.counts(x, 0),
                p -> p.combine(0, x, 0), p -> p.combine(0, 0, x), p -> p.combine(1, x, 0), p -> p.combine(1, 0, x),
                p -> p.combine(2, x, 0), p -> p.combine(2, 0, x), p -> p.combine(3, x, 0), p -> p.same(x, 0), p -> p.same(0, x));
            Desk.refused(check, Long.MIN_VALUE, p -> p.series(x, 0));
        }
    }

    @Sentence(section = "Terms", words = "of 64 bits, going round")
    static void numbersGoRoundIn64Bits(Check check) {
        PartitionPress press = one();
        press.one(1);
        for (int i = 0; i < 62; i++) {
            press.combine(1, 0, 0);
        }
        check.due("2 to the 62nd", press.series(0, 0), 1L << 62);
        press.combine(1, 0, 0);
        check.due("2 to the 63rd goes round", press.series(0, 0), Long.MIN_VALUE);
        press.combine(2, 0, 1);
        check.due("one less goes round", press.series(0, 0), Long.MAX_VALUE);
        press.combine(1, 0, 1);
        check.due("one more goes round", press.series(0, 0), Long.MIN_VALUE);
        press.combine(1, 0, 0);
        check.due("2 to the 64th is 0", press.series(0, 0), 0);
        press.one(2);
        for (int i = 0; i < 32; i++) {
            press.combine(1, 2, 2);
        }
        press.combine(1, 2, 1);
        press.combine(0, 2, 2);
        check.due("(2 to the 32nd + 1) times itself", press.series(2, 0), (1L << 33) + 1);
        PartitionPress over = one();
        over.factors(0, 1, 0, -20);
        check.due("a product that is beyond 64 bits", over.series(0, 400), allOver(20, 400).longValue());
        check.holds("it is beyond 64 bits", allOver(20, 400).bitLength() > 64);
    }

    /** 1 over all (1 - the power k), so many times: the number at a place. */
    private static BigInteger allOver(int times, int place) {
        BigInteger[] row = new BigInteger[place + 1];
        java.util.Arrays.fill(row, BigInteger.ZERO);
        row[0] = BigInteger.ONE;
        for (int i = 0; i < times; i++) {
            for (int k = 1; k <= place; k++) {
                for (int j = k; j <= place; j++) {
                    row[j] = row[j].add(row[j - k]);
                }
            }
        }
        return row[place];
    }

    @Sentence(section = "Terms", words = "of the places 0 .. 400 (0s at first).")
    static void placesAre0To400(Check check) {
        for (int x = 0; x < 4; x++) {
            PartitionPress press = new PartitionPress();
            for (int place = 0; place <= 400; place++) {
                check.due("at first, place " + place, press.series(x, place), 0);
            }
            check.due("place -1", press.series(x, -1), Long.MIN_VALUE);
            check.due("place 401", press.series(x, 401), Long.MIN_VALUE);
        }
        PartitionPress moved = one();
        moved.combine(3, 0, 400);
        due(check, "moved to the last place", moved, 400, 1);
    }

    @Sentence(section = "Terms", words = "factors(): a SERIES is taken times (1 - the power k) to the e-th, for all k from 1 on whose rest by m is r")
    static void factorsOfAllKFromOneOn(Check check) {
        PartitionPress press = one();
        press.factors(0, 400, 0, 1);
        due(check, "rest 0 by 400: k is 400, not 0", press, 0, 1, 400, -1);
        press = one();
        press.factors(0, 400, 399, 1);
        due(check, "rest 399 by 400", press, 0, 1, 399, -1);
        press = one();
        press.factors(0, 399, 1, 1);
        due(check, "rest 1 by 399: k is 1 and 400", press, 0, 1, 1, -1, 400, -1);
        press = one();
        press.factors(0, 200, 0, 1);
        due(check, "rest 0 by 200: k is 200 and 400", press, 0, 1, 200, -1, 400, -1);
        press = one();
        press.factors(0, 400, 1, 2);
        due(check, "to the second", press, 0, 1, 1, -2, 2, 1);
        press = one();
        press.factors(0, 400, 20, 20);
        check.due("to the 20th: the last place", press.series(0, 400), 1);
        check.due("to the 20th: the one ahead", press.series(0, 380), -20);
        press.factors(0, 7, 3, 0);
        check.due("to the 0-th", press.series(0, 380), -20);
        PartitionPress zero = new PartitionPress();
        zero.factors(0, 1, 0, 20);
        due(check, "0s stay 0s", zero);
    }

    @Sentence(section = "Terms", words = "for e below 0 over it.")
    static void forEBelowNoneOverIt(Check check) {
        PartitionPress press = one();
        press.factors(0, 400, 0, -1);
        due(check, "over 1 - the power 400", press, 0, 1, 400, 1);
        press = one();
        press.factors(0, 400, 200, -2);
        due(check, "over its second", press, 0, 1, 200, 2, 400, 3);
        press = one();
        press.factors(0, 1, 0, -1);
        press.counts(1, 0);
        check.due("over all: the counts of all SUMS", press.same(0, 1), NONE);
        press.one(2);
        press.factors(0, 1, 0, 1);
        check.due("times all again", press.same(0, 2), NONE);
        press.factors(0, 1, 0, -20);
        press.factors(0, 1, 0, 20);
        check.due("over it and times it, round 64 bits", press.same(0, 2), NONE);
    }

    @Sentence(section = "Terms", words = "signs(): a SERIES becomes the sum over all whole numbers k of (-1) to the k at the place (x k k + y k) / 2")
    static void signsOverAllWholeNumbers(Check check) {
        PartitionPress press = new PartitionPress();
        press.counts(0, 0);
        press.signs(0, 100, 98);
        due(check, "100, 98: k 0, -1, 1, -2, 2, -3", press, 0, 1, 1, -1, 99, -1, 102, 1, 298, 1, 303, -1);
        press = new PartitionPress();
        press.signs(0, 100, -98);
        due(check, "100, -98: k 0, 1, -1, 2, -2, 3", press, 0, 1, 1, -1, 99, -1, 102, 1, 298, 1, 303, -1);
        press = new PartitionPress();
        press.signs(0, 2, 0);
        long[] squares = new long[42];
        for (int k = 0; k <= 20; k++) {
            squares[2 * k] = k * k;
            squares[2 * k + 1] = k == 0 ? 1 : k % 2 == 0 ? 2 : -2;
        }
        due(check, "2, 0: the squares to 400, two k at each but 0", press, squares);
        press = one();
        press.factors(0, 1, 0, 1);
        press.signs(1, 3, 1);
        press.signs(2, 3, -1);
        check.due("3, 1: all 1 - the power k", press.same(0, 1), NONE);
        check.due("3, -1: the same", press.same(1, 2), NONE);
    }

    @Sentence(section = "Terms", words = "(x + y even; y from -x + 1 to x - 1).")
    static void signsOfEvenSumsAndYBetween(Check check) {
        for (int a : new int[] {2, 3, 50, 99, 100}) {
            PartitionPress press = new PartitionPress();
            for (int b = a - 4; b <= a + 2; b++) {
                boolean good = b <= a - 1 && b >= 1 - a && (a + b) % 2 == 0;
                check.due("signs(0, " + a + ", " + b + ")", press.signs(0, a, b), good ? 1 : RANGE);
                good = -b <= a - 1 && -b >= 1 - a && (a - b) % 2 == 0;
                check.due("signs(0, " + a + ", " + -b + ")", press.signs(0, a, -b), good ? 1 : RANGE);
            }
        }
        Desk.refused(check, RANGE, p -> p.signs(0, 1, 0), p -> p.signs(0, 1, 1), p -> p.signs(0, 1, -1), p -> p.signs(0, 4, 4),
            p -> p.signs(0, 4, -4), p -> p.signs(0, 4, 3), p -> p.signs(0, 4, -3), p -> p.signs(0, 4, Integer.MIN_VALUE),
            p -> p.signs(0, 5, Integer.MAX_VALUE));
    }

    @Sentence(section = "Terms", words = "counts(): a SERIES becomes the counts of a LAW at each place")
    static void countsAtEachPlace(Check check) {
        PartitionPress press = new PartitionPress();
        press.law(1, 1, 2, 2, 1, 0);
        press.law(2, 2, 1, 1, 0, 1);
        press.law(4, 4, 0, 0, 0, 0);
        press.law(5, 5, 2, 0, 0, 0);
        for (int l : new int[] {0, 1, 2, 4, 5}) {
            press.one(0);
            press.factors(0, 1, 0, -2);
            check.due("counts by LAW " + l, press.counts(0, l), 1);
            for (int n : new int[] {0, 1, 2, 60, 61, 399, 400}) {
                check.due("LAW " + l + ", place " + n, press.series(0, n), press.count(l, n));
            }
        }
        press.counts(0, 1);
        press.counts(1, 4);
        check.due("OWN ones are as many as of unlike odd PARTS", press.same(0, 1), NONE);
    }

    @Sentence(section = "Terms", words = "(of FEW up to 60, 0s behind).")
    static void countsOfFewUpTo60(Check check) {
        PartitionPress press = new PartitionPress();
        press.law(0, 3, 60, 60, 0, 0);
        press.counts(0, 1);
        press.counts(0, 0);
        check.due("place 0", press.series(0, 0), 1);
        check.due("place 60", press.series(0, 60), 966467);
        for (int place = 61; place <= 400; place++) {
            check.due("place " + place, press.series(0, place), 0);
        }
    }

    @Sentence(section = "Terms", words = "ACTS are calls that change SHEETS")
    static void otherCallsAreNoActs(Check check) {
        PartitionPress press = Desk.with(4, 1);
        press.law(1, 1, 2, 2, 0, 0);
        press.clash(1, 0);
        press.count(1, 9);
        press.rank(0, 0);
        press.sheet(0, 0);
        press.hook(0, 0, 0);
        press.fillings(0);
        press.filling(0, 0, 1);
        press.heap(0, 5, 5, 0);
        press.one(0);
        press.factors(0, 1, 0, 1);
        press.signs(1, 3, 1);
        press.counts(2, 0);
        press.combine(0, 1, 2);
        press.series(1, 0);
        press.same(0, 1);
        press.told(0);
        check.due("told(8): the PARTS alone are noted", press.told(8), 2);
        check.due("undo()", press.undo(), 1);
        check.due("the latest PART is taken back", Sums.read(press, 0), 4);
        check.due("LAWS stay", press.told(1), 1);
        check.due("SERIES stay", press.series(1, 0), 1);
        check.due("undo() is none", press.told(8), 1);
    }

    @Sentence(section = "Terms", words = "each that is done is noted, with what the SHEET was")
    static void actsAreNotedWithWhatTheSheetWas(Check check) {
        PartitionPress press = Desk.with(4, 1);
        Desk.act(check, press, 0, 3, p -> p.part(0, 1));
        Desk.act(check, press, 0, 5, p -> p.clear(0));
        Desk.act(check, press, 1, 5, p -> p.copy(0, 1));
        Desk.act(check, press, 0, 1, p -> p.next(0));
        Desk.act(check, press, 0, 1, p -> p.tell(0, 400, 0, 0));
        Desk.act(check, press, 0, 4, p -> p.lead(4, 0, 0, 0));
        Desk.act(check, press, 1, 4, p -> p.back(4, 0, 0, 1));
        Desk.act(check, press, 0, 3, p -> p.core(2, 0, 0));
        Desk.act(check, press, 1, 1, p -> p.quotient(2, 1, 0, 1));
        Desk.act(check, press, 2, 10, p -> p.join(2, 2, 0));
        Desk.act(check, press, 0, 1, p -> p.peel(2, 0));
    }

    @Sentence(section = "Terms", words = "the latest 60 can be undone.")
    static void theLatest60CanBeUndone(Check check) {
        for (int acts : new int[] {59, 60, 61, 120, 121}) {
            PartitionPress press = new PartitionPress();
            for (int i = 0; i < acts; i++) {
                press.part(i % 8, 1);
            }
            int noted = Math.min(acts, 60);
            check.due("told(8) after " + acts, press.told(8), noted);
            for (int i = 1; i <= noted; i++) {
                check.due("undo() after " + acts, press.undo(), noted - i);
            }
            check.due("no more after " + acts, press.undo(), NONE);
            for (int s = 0; s < 8; s++) {
                int kept = acts - noted;
                check.due("what SHEET " + s + " still has after " + acts, press.sheet(s, 0), kept / 8 + (s < kept % 8 ? 1 : 0));
            }
        }
    }

    @Sentence(section = "Terms", words = "Ahead of the calls `part`, `clear`, `copy`, `sheet`, `hook`, `next`, `undo` the interface says: ---- sheets.")
    static void aheadOfSheets(Check check) throws IOException {
        aheadOf(check, "sheets", "part", "clear", "copy", "sheet", "hook", "next", "undo");
    }

    @Sentence(section = "Terms", words = "Ahead of the calls `law`, `clash`, `count`, `rank`, `tell` the interface says: ---- laws.")
    static void aheadOfLaws(Check check) throws IOException {
        aheadOf(check, "laws", "law", "clash", "count", "rank", "tell");
    }

    @Sentence(section = "Terms", words = "Ahead of the calls `lead`, `back`, `core`, `quotient`, `join`, `peel`, `fillings`, `filling`, `heap` "
        + "the interface says: ---- ways to others.")
    static void aheadOfWays(Check check) throws IOException {
        aheadOf(check, "ways to others", "lead", "back", "core", "quotient", "join", "peel", "fillings", "filling", "heap");
    }

    @Sentence(section = "Terms", words = "Ahead of the calls `one`, `factors`, `signs`, `counts`, `combine`, `series`, `same`, `told` "
        + "the interface says: ---- series.")
    static void aheadOfSeries(Check check) throws IOException {
        aheadOf(check, "series", "one", "factors", "signs", "counts", "combine", "series", "same", "told");
    }

    /** The calls stand in this order behind their heading, and no other heading stands among them. */
    private static void aheadOf(Check check, String heading, String... calls) throws IOException {
        String text = Files.readString(Path.of("src/main/java/PartitionPress.java"), StandardCharsets.UTF_8);
        int from = text.indexOf("// ---- " + heading + "\n");
        int to = text.indexOf("// ---- ", from + 1);
        check.holds("the heading stands", from >= 0 && to > from);
        int last = from;
        for (String call : calls) {
            int at = text.indexOf(" " + call + "(", text.indexOf("    public ", last));
            check.holds(call + " stands behind it", at > last && at < to);
            last = at;
        }
    }
}
