/** The sentences of "Terms", II: LEADS, cores and quotients, FILLINGS, ranks and cranks. */
public final class TermsWaysTest {
    private static final int RANGE = PartitionPress.RANGE;
    private static final int KIND = PartitionPress.KIND;

    private TermsWaysTest() {
    }

    public static void main(String[] args) {
        Sentences.run(TermsWaysTest.class);
    }

    /** What a LEAD makes of a SUM. */
    private static int[] led(int kind, int x, int... sum) {
        PartitionPress press = Desk.with(sum);
        press.lead(kind, x, 0, 1);
        return Sums.read(press, 1);
    }

    private static int[] ledBack(int kind, int x, int... sum) {
        PartitionPress press = Desk.with(sum);
        press.back(kind, x, 0, 1);
        return Sums.read(press, 1);
    }

    @Sentence(section = "Terms", words = "II. LEADS (the n stays)")
    static void theNStays(Check check) {
        PartitionPress press = Desk.with(400);
        Desk.put(press, 1, 399, 1);
        Desk.put(press, 2, 256, 128, 16);
        Desk.putOnes(press, 400, 3);
        int[][] there = {{1, 2, 2}, {1, 12, 0}, {2, 0, 1}, {3, 0, 1}, {3, 0, 3}, {4, 0, 0}, {4, 0, 3}, {5, 0, 0}, {5, 0, 1}, {5, 0, 2}};
        for (int[] lead : there) {
            check.holds("lead " + lead[0], press.lead(lead[0], lead[1], lead[2], 4) > 0);
            check.due("n by lead " + lead[0], press.sheet(4, 0), 400);
            check.holds("back " + lead[0], press.back(lead[0], lead[1], 4, 5) > 0);
            check.due("n by back " + lead[0], press.sheet(5, 0), 400);
            for (int what : new int[] {1, 100, 101, 102}) {
                check.due("back " + lead[0] + ", sheet " + what, press.sheet(5, what), press.sheet(lead[2], what));
            }
        }
        for (int kind = 1; kind <= 5; kind++) {
            check.due("of no PARTS", press.lead(kind, kind == 1 ? 2 : 0, 7, 6), 0);
            check.due("of no PARTS, back", press.back(kind, kind == 1 ? 2 : 0, 7, 6), 0);
        }
        check.due("n of no PARTS", press.sheet(6, 0), 0);
    }

    @Sentence(section = "Terms", words = "kind 1, from SUMS with no PART x times or more")
    static void noPartIsXTimes(Check check) {
        PartitionPress press = Desk.with(3, 3);
        check.due("x 2: two times", press.lead(1, 2, 0, 1), KIND);
        check.due("x 3: two times", press.lead(1, 3, 0, 1), 6);
        press.part(0, 1);
        check.due("x 2: two times ahead of another", press.lead(1, 2, 0, 1), KIND);
        Desk.put(press, 2, Desk.ones(11));
        check.due("x 12: 11 times", press.lead(1, 12, 2, 1), 11);
        check.due("x 11: 11 times", press.lead(1, 11, 2, 1), KIND);
        press.part(2, 1);
        check.due("x 12: 12 times", press.lead(1, 12, 2, 1), KIND);
        press.part(2, 1);
        check.due("x 12: 13 times", press.lead(1, 12, 2, 1), KIND);
    }

    @Sentence(section = "Terms", words = "to those with no multiple of x among their PARTS (x 2 .. 12)")
    static void noMultipleOfX(Check check) {
        for (int x = 2; x <= 12; x++) {
            PartitionPress press = Desk.with(x + 1);
            check.due("x " + x + ": x + 1 back", press.back(1, x, 0, 1), 1);
            press.part(0, x);
            check.due("x " + x + ": x + 1 and x back", press.back(1, x, 0, 1), KIND);
            Desk.put(press, 2, 2 * x);
            check.due("x " + x + ": 2 x back", press.back(1, x, 2, 1), KIND);
            Desk.put(press, 3, x - 1);
            check.due("x " + x + ": x - 1 back", press.back(1, x, 3, 1), 1);
        }
        PartitionPress press = Desk.with(5);
        for (int x : new int[] {1, 13, 0, -2, Integer.MIN_VALUE, Integer.MAX_VALUE}) {
            check.due("x " + x, press.lead(1, x, 0, 1), RANGE);
            check.due("x " + x + " back", press.back(1, x, 0, 1), RANGE);
        }
    }

    @Sentence(section = "Terms", words = "each multiple of x is cut in x like ones, till there is none")
    static void multiplesAreCutTillThereIsNone(Check check) {
        check.due("x 2: 256 128 16, to ones", led(1, 2, 256, 128, 16), Desk.ones(400));
        check.due("x 12: 144, to ones", led(1, 12, 144), Desk.ones(144));
        check.due("x 2: 12 6 5", led(1, 2, 12, 6, 5), 5, 3, 3, 3, 3, 3, 3);
        check.due("x 3: 7 3 3 2", led(1, 3, 7, 3, 3, 2), 7, 2, 1, 1, 1, 1, 1, 1);
        check.due("x 12: 11 stays", led(1, 12, 11), 11);
        check.due("x 2: 400", led(1, 2, 400), like(16, 25));
        check.due("x 8: 400", led(1, 8, 400), like(8, 50));
        check.due("x 5: of no PARTS", led(1, 5));
    }

    @Sentence(section = "Terms", words = "back: of like PARTS x are put to one, till there are no x.")
    static void likePartsArePutTogetherTillThereAreNoX(Check check) {
        check.due("x 2: 400 PARTS 1", ledBack(1, 2, Desk.ones(400)), 256, 128, 16);
        check.due("x 12: 11 PARTS 1", ledBack(1, 12, Desk.ones(11)), Desk.ones(11));
        check.due("x 12: 12 PARTS 1", ledBack(1, 12, Desk.ones(12)), 12);
        check.due("x 12: 13 PARTS 1", ledBack(1, 12, Desk.ones(13)), 12, 1);
        check.due("x 12: 144 PARTS 1", ledBack(1, 12, Desk.ones(144)), 144);
        check.due("x 12: 143 PARTS 1", ledBack(1, 12, Desk.ones(143)), 12, 12, 12, 12, 12, 12, 12, 12, 12, 12, 12, 1, 1, 1, 1, 1, 1, 1, 1, 1, 1, 1);
        check.due("x 2: 133 133 133", ledBack(1, 2, 133, 133, 133), 266, 133);
        check.due("x 2: 16 PARTS 25", ledBack(1, 2, like(16, 25)), 400);
        check.due("x 8: 8 PARTS 50", ledBack(1, 8, like(8, 50)), 400);
        check.due("x 2: of no PARTS", ledBack(1, 2));
    }

    private static int[] like(int many, int v) {
        int[] sum = new int[many];
        java.util.Arrays.fill(sum, v);
        return sum;
    }

    @Sentence(section = "Terms", words = "2 (x 0), from SUMS of unlike odd PARTS to OWN ones")
    static void fromUnlikeOddPartsToOwn(Check check) {
        PartitionPress press = Desk.with(3, 3);
        Desk.put(press, 1, 3, 2);
        Desk.put(press, 2, 3, 1);
        Desk.put(press, 3, 2);
        Desk.put(press, 4, 2, 2);
        check.due("odd, but like", press.lead(2, 0, 0, 7), KIND);
        check.due("unlike, but not odd", press.lead(2, 0, 1, 7), KIND);
        check.due("unlike and odd", press.lead(2, 0, 2, 7), 2);
        check.due("is OWN", Sums.read(press, 7), 2, 2);
        check.due("of no PARTS", press.lead(2, 0, 5, 7), 0);
        check.due("back: not OWN", press.back(2, 0, 3, 7), KIND);
        check.due("back: OWN", press.back(2, 0, 4, 7), 2);
        check.due("back: of no PARTS", press.back(2, 0, 5, 7), 0);
        check.due("x 1", press.lead(2, 1, 2, 7), RANGE);
        check.due("x -1", press.lead(2, -1, 2, 7), RANGE);
        check.due("back: x 1", press.back(2, 1, 4, 7), RANGE);
        check.due("back: x 2", press.back(2, 2, 4, 7), RANGE);
    }

    @Sentence(section = "Terms", words = "each PART, the first to the first, is the HOOK of a SQUARE (i, i), with an arm as long as its leg.")
    static void eachPartIsAHook(Check check) {
        check.due("1", led(2, 0, 1), 1);
        check.due("9 5 1", led(2, 0, 9, 5, 1), 5, 4, 3, 2, 1);
        check.due("7 1", led(2, 0, 7, 1), 4, 2, 1, 1);
        PartitionPress press = Desk.with(399, 1);
        check.due("399 1", press.lead(2, 0, 0, 1), 200);
        check.due("HOOK of (0, 0)", press.hook(1, 0, 0), 399);
        check.due("HOOK of (1, 1)", press.hook(1, 1, 1), 1);
        check.due("row 0", press.sheet(1, 100), 200);
        check.due("row 1", press.sheet(1, 101), 2);
        check.due("row 2", press.sheet(1, 102), 1);
        check.due("back", press.back(2, 0, 1, 2), 2);
        check.due("back", Sums.read(press, 2), 399, 1);
    }

    @Sentence(section = "Terms", words = "3 (x 0), from SUMS of odd PARTS to those of unlike ones by bends")
    static void fromOddPartsToUnlikeOnes(Check check) {
        PartitionPress press = Desk.with(3, 3, 1);
        Desk.put(press, 1, 3, 2);
        Desk.put(press, 2, 4, 2, 1);
        Desk.put(press, 3, 4, 4);
        Desk.put(press, 4, 2);
        check.due("odd PARTS, like ones too", press.lead(3, 0, 0, 7), 3);
        check.due("an even PART", press.lead(3, 0, 1, 7), KIND);
        check.due("an even PART alone", press.lead(3, 0, 4, 7), KIND);
        check.due("of no PARTS", press.lead(3, 0, 5, 7), 0);
        check.due("back: unlike PARTS, even ones too", press.back(3, 0, 2, 7), 3);
        check.due("back: like PARTS", press.back(3, 0, 3, 7), KIND);
        check.due("back: of no PARTS", press.back(3, 0, 5, 7), 0);
        check.due("x 1", press.lead(3, 1, 0, 7), RANGE);
        check.due("back: x -1", press.back(3, -1, 2, 7), RANGE);
    }

    @Sentence(section = "Terms", words = "the PARTS 2 a + 1 are drawn as rows in the middle of one another, those with the greatest a on top; "
        + "the first bend goes up the middle column from its lowest SQUARE, and then on the top row to the right: a whole row's right half; "
        + "the second goes up the column left of it, down from the lowest one there, and along the top row to the left; "
        + "the third up the column right of the middle, and along the second row to the right; and so on, by turns: "
        + "the PARTS are how many SQUARES each bend has.")
    static void bendsAsDrawn(Check check) {
        for (int n = 0; n <= 15; n++) {
            for (int[] sum : Sums.all(n)) {
                if (Sums.isOdd(sum)) {
                    int[] bent = WaysTest.bent(sum);
                    check.due("bends of " + java.util.Arrays.toString(sum), led(3, 0, sum), bent);
                    check.due("and back", ledBack(3, 0, bent), sum);
                }
            }
        }
        check.due("one row", led(3, 0, 9), 5, 4);
        check.due("one column", led(3, 0, 1, 1, 1), 3);
        check.due("a square of three rows", led(3, 0, 5, 5, 5), 5, 4, 3, 2, 1);
    }

    @Sentence(section = "Terms", words = "With a the numbers of SQUARES right of the middle, greatest first (a(0) .. a(k - 1)), "
        + "b(j) how many a are j at least: bend 2 j + 1 (j from 0 on) has a(j) - j + b(j) - j; bend 2 j + 2 has a(j) - j + b(j + 1) - j - 1")
    static void bendsByNumbers(Check check) {
        PartitionPress press = new PartitionPress();
        press.law(1, 1, 2, 2, 0, 0);
        long many = press.count(1, 400);
        for (int i = 0; i <= 5; i++) {
            PartitionPress each = new PartitionPress();
            each.law(1, 1, 2, 2, 0, 0);
            each.tell(1, 400, i < 5 ? many / 5 * i : many - 1, 0);
            int[] sum = Sums.read(each, 0);
            check.due("bends of SUM " + i + " of odd PARTS of 400", led(3, 0, sum), bends(sum));
            check.due("and back", ledBack(3, 0, bends(sum)), sum);
        }
    }

    private static int[] bends(int[] sum) {
        int[] bends = new int[2 * sum.length + 2];
        int size = 0;
        for (int j = 0; j < sum.length; j++) {
            int a = sum[j] / 2;
            int right = a - j + reaching(sum, j) - j;
            int left = a - j + reaching(sum, j + 1) - j - 1;
            for (int bend : new int[] {right, left}) {
                if (bend > 0) {
                    bends[size] = bend;
                    size++;
                }
            }
        }
        return Sums.trimmed(bends);
    }

    private static int reaching(int[] sum, int j) {
        int many = 0;
        for (int v : sum) {
            many += v / 2 >= j ? 1 : 0;
        }
        return many;
    }

    @Sentence(section = "Terms", words = "as long as they are above 0 (b(0) is k).")
    static void bendsAsLongAsAboveNone(Check check) {
        check.due("1: there is no second bend", led(3, 0, 1), 1);
        check.due("3: there is no third bend", led(3, 0, 3), 2, 1);
        check.due("3 1: the second bend has one SQUARE", led(3, 0, 3, 1), 3, 1);
        check.due("3 3: the third bend has one SQUARE", led(3, 0, 3, 3), 3, 2, 1);
        check.due("400 PARTS 1: b(0) is 400", led(3, 0, Desk.ones(400)), 400);
        check.due("399 1", led(3, 0, 399, 1), 201, 199);
        check.due("back from 400", ledBack(3, 0, 400), Desk.ones(400));
        check.due("back from 201 199", ledBack(3, 0, 201, 199), 399, 1);
        check.due("back from 1", ledBack(3, 0, 1), 1);
        check.due("back from 2 1", ledBack(3, 0, 2, 1), 3);
    }

    @Sentence(section = "Terms", words = "4 (x 0), from all SUMS to all: TURNED.")
    static void turnedIsFromAllToAll(Check check) {
        for (int n = 0; n <= 7; n++) {
            for (int[] sum : Sums.all(n)) {
                check.due("TURNED", led(4, 0, sum), Sums.turned(sum));
                check.due("back: TURNED", ledBack(4, 0, sum), Sums.turned(sum));
            }
        }
        check.due("x 1", Desk.with(2).lead(4, 1, 0, 1), RANGE);
        check.due("x -1", Desk.with(2).lead(4, -1, 0, 1), RANGE);
        check.due("back: x 2", Desk.with(2).back(4, 2, 0, 1), RANGE);
    }

    @Sentence(section = "Terms", words = "5 (x 0), SUMS of unlike PARTS, a move there and back (back is the same)")
    static void theMoveIsThereAndBack(Check check) {
        for (int n = 0; n <= 12; n++) {
            for (int[] sum : Sums.all(n)) {
                if (Sums.isUnlike(sum)) {
                    int[] there = led(5, 0, sum);
                    check.due("back is the same", ledBack(5, 0, sum), there);
                    check.due("there and back", led(5, 0, there), sum);
                } else {
                    check.due("like PARTS", Desk.with(sum).lead(5, 0, 0, 1), KIND);
                    check.due("back: like PARTS", Desk.with(sum).back(5, 0, 0, 1), KIND);
                }
            }
        }
        check.due("x 1", Desk.with(2).lead(5, 1, 0, 1), RANGE);
        check.due("back: x -1", Desk.with(2).back(5, -1, 0, 1), RANGE);
    }

    @Sentence(section = "Terms", words = "s the last PART, g how many PARTS from the first on there are, each below the one ahead by just 1")
    static void gIsCountedFromTheFirstOn(Check check) {
        check.due("g 1, as the next is below by 2", led(5, 0, 7, 5, 4), 6, 5, 4, 1);
        check.due("g 2, as the third is below by 2", led(5, 0, 9, 8, 6, 5), 8, 7, 6, 5, 2);
        check.due("g 3: all of them", led(5, 0, 9, 8, 7), 8, 7, 6, 3);
        check.due("g 1: one PART", led(5, 0, 400), 399, 1);
    }

    @Sentence(section = "Terms", words = "if s is at most g, the last PART is taken away, and each of the first s grows by 1")
    static void ifSIsAtMostG(Check check) {
        check.due("s 1, g 1", led(5, 0, 5, 1), 6);
        check.due("s 1, g 2", led(5, 0, 5, 4, 1), 6, 4);
        check.due("s 2, g 2", led(5, 0, 5, 4, 2), 6, 5);
        check.due("s 2, g 3 of 3 PARTS", led(5, 0, 4, 3, 2), 5, 4);
        check.due("s 1, g 2 of 2 PARTS", led(5, 0, 2, 1), 3);
        check.due("of 400", led(5, 0, 399, 1), 400);
    }

    @Sentence(section = "Terms", words = "else each of the first g falls by 1, and a PART g comes behind")
    static void elseTheFirstGFall(Check check) {
        check.due("s 2, g 1, but 2 PARTS", led(5, 0, 5, 2), 4, 2, 1);
        check.due("s 3, g 1", led(5, 0, 5, 3), 4, 3, 1);
        check.due("s 3, g 2, but 3 PARTS", led(5, 0, 6, 5, 3), 5, 4, 3, 2);
        check.due("s 4, g 2 of 2 PARTS", led(5, 0, 5, 4), 4, 3, 2);
        check.due("s 3, g 1 of 1 PART", led(5, 0, 3), 2, 1);
    }

    @Sentence(section = "Terms", words = "but not if s is g and there are g PARTS")
    static void itStaysIfSIsGOfGParts(Check check) {
        check.due("1", led(5, 0, 1), 1);
        check.due("3 2", led(5, 0, 3, 2), 3, 2);
        check.due("5 4 3", led(5, 0, 5, 4, 3), 5, 4, 3);
        int[] most = run(31, 16);
        check.due("the greatest such, of 376", led(5, 0, most), most);
        check.due("s is 2, g is 4", led(5, 0, 5, 4, 3, 2), 6, 5, 3);
    }

    @Sentence(section = "Terms", words = "or s is g + 1 and there are g, or")
    static void itStaysIfSIsOneAboveGOfGParts(Check check) {
        check.due("2", led(5, 0, 2), 2);
        check.due("4 3", led(5, 0, 4, 3), 4, 3);
        check.due("6 5 4", led(5, 0, 6, 5, 4), 6, 5, 4);
        int[] most = run(32, 17);
        check.due("the greatest such, of 392", led(5, 0, most), most);
    }

    private static int[] run(int first, int last) {
        int[] sum = new int[first - last + 1];
        for (int i = 0; i < sum.length; i++) {
            sum[i] = first - i;
        }
        return sum;
    }

    @Sentence(section = "Terms", words = "there are no PARTS: it STAYS as it is.")
    static void itStaysIfThereAreNoParts(Check check) {
        PartitionPress press = new PartitionPress();
        Desk.put(press, 1, 2, 1);
        check.due("lead", press.lead(5, 0, 0, 1), 0);
        check.due("of no PARTS", press.sheet(1, 0), 0);
        check.due("back", press.back(5, 0, 0, 0), 0);
        check.due("of no PARTS", press.sheet(0, 0), 0);
    }

    @Sentence(section = "Terms", words = "CORES and quotients by t (2 .. 12)")
    static void coresByTwoToTwelve(Check check) {
        PartitionPress press = Desk.with(24);
        for (int t : new int[] {2, 12}) {
            check.due("core by " + t, press.core(t, 0, 1), 0);
            check.holds("quotient by " + t, press.quotient(t, t - 1, 0, 1) == 24 / t);
            check.due("peel by " + t, press.peel(t, 0), 1);
            check.due("undo", press.undo() >= 0 ? 1 : 0, 1);
        }
        for (int t : new int[] {1, 13, 0, -2, Integer.MIN_VALUE, Integer.MAX_VALUE}) {
            check.due("core by " + t, press.core(t, 0, 1), RANGE);
            check.due("quotient by " + t, press.quotient(t, 0, 0, 1), RANGE);
            check.due("peel by " + t, press.peel(t, 0), RANGE);
            check.due("join by " + t, press.join(t, 7, 0), RANGE);
        }
    }

    @Sentence(section = "Terms", words = "for the least multiple w of t that is not below how many PARTS there are")
    static void wIsTheLeastMultipleNotBelow(Check check) {
        // A HOOK of t that is a column stands on runner 0 if w is just t, and on the last one if w is t more than a PART less.
        for (int t = 2; t <= 12; t++) {
            PartitionPress press = Desk.with(Desk.ones(t));
            Desk.put(press, 1, Desk.ones(t + 1));
            Desk.put(press, 2, t);
            for (int r = 0; r < t; r++) {
                check.due("t PARTS, w is t: quotient " + r + " by " + t, press.quotient(t, r, 0, 7), r == 0 ? 1 : 0);
                check.due("t + 1 PARTS, w is 2 t: quotient " + r + " by " + t, press.quotient(t, r, 1, 7), r == t - 1 ? 1 : 0);
                check.due("one PART, w is t: quotient " + r + " by " + t, press.quotient(t, r, 2, 7), r == t - 1 ? 1 : 0);
                check.due("no PARTS, w is 0: quotient " + r + " by " + t, press.quotient(t, r, 3, 7), 0);
            }
        }
    }

    @Sentence(section = "Terms", words = "the numbers PART i + w - 1 - i, i from 0 to w - 1 (a PART that isn't there is 0), are set on t runners by their rests")
    static void numbersStandOnRunnersByTheirRests(Check check) {
        // 5 3 by 3: w is 3, the numbers 7 4 0; on runner 1 are 2 and 1, on runner 0 is 0. Pushed down they are 4 1 0.
        PartitionPress press = Desk.with(5, 3);
        check.due("quotient 0", press.quotient(3, 0, 0, 1), 0);
        check.due("quotient 1", press.quotient(3, 1, 0, 1), 2);
        check.due("quotient 1", Sums.read(press, 1), 1, 1);
        check.due("quotient 2", press.quotient(3, 2, 0, 1), 0);
        check.due("core", press.core(3, 0, 1), 2);
        check.due("core", Sums.read(press, 1), 2);
        PartitionPress full = new PartitionPress();
        full.tell(0, 400, Desk.ALL_OF_400 - 1, 0);
        check.due("400 PARTS 1 by 12: w is 408, the greatest number 408", full.quotient(12, 0, 0, 1), 0);
        check.due("core of 400 PARTS 1 by 12", full.core(12, 0, 1), 4);
        check.due("core of 400 PARTS 1 by 12", Sums.read(full, 1), 1, 1, 1, 1);
    }

    @Sentence(section = "Terms", words = "on runner r those with quotients u(0) above u(1) above .. u(k - 1) make the quotient r: "
        + "PARTS u(i) - (k - 1 - i), as far as they are above 0.")
    static void quotientsHavePartsAboveNone(Check check) {
        PartitionPress press = Desk.with(400);
        check.due("400 by 2", press.quotient(2, 1, 0, 1), 200);
        check.due("400 by 2", Sums.read(press, 1), 200);
        check.due("400 by 2, the other runner", press.quotient(2, 0, 0, 1), 0);
        check.due("no PARTS", press.sheet(1, 1), 0);
        for (int n = 0; n <= 9; n++) {
            for (int[] sum : Sums.all(n)) {
                PartitionPress each = Desk.with(sum);
                for (int r = 0; r < 3; r++) {
                    each.quotient(3, r, 0, 1);
                    check.due("quotient " + r + " by 3 of " + java.util.Arrays.toString(sum), Sums.read(each, 1), WaysTest.quotient(3, r, sum));
                }
            }
        }
    }

    @Sentence(section = "Terms", words = "The core: on each runner they are pushed down to 0 .. k - 1, and read as a SUM again.")
    static void theCoreIsPushedDown(Check check) {
        PartitionPress press = Desk.with(400);
        int[] left = {0, 0, 0, 1, 0, 0, 4, 1, 0, 4, 0, 4, 4};
        for (int t = 2; t <= 12; t++) {
            check.due("core of 400 by " + t, press.core(t, 0, 1), left[t]);
            check.due("its PARTS", Sums.read(press, 1), left[t] == 0 ? new int[0] : new int[] {left[t]});
            check.due("of no PARTS", press.core(t, 2, 1), 0);
        }
        PartitionPress stairs = Desk.with(4, 3, 2, 1);
        check.due("a core by 2", stairs.core(2, 0, 1), 10);
        check.due("stays", Sums.read(stairs, 1), 4, 3, 2, 1);
        check.due("by 3", stairs.core(3, 0, 1), 1);
    }

    @Sentence(section = "Terms", words = "To peel is to take away a HOOK of t along the rim: of these numbers one goes down by t to one that is not there")
    static void toPeelIsToTakeAwayAHook(Check check) {
        PartitionPress press = Desk.with(2);
        check.due("2 by 2", press.peel(2, 0), 1);
        check.due("no PARTS are left", press.sheet(0, 1), 0);
        check.due("none any more", press.peel(2, 0), 0);
        PartitionPress rim = Desk.with(3, 3, 2);
        check.due("3 3 2 by 5", rim.peel(5, 0), 1);
        check.due("along the rim", Sums.read(rim, 0), 2, 1);
        PartitionPress far = Desk.with(12);
        check.due("12 by 12", far.peel(12, 0), 1);
        check.due("11 by 12", Desk.with(11).peel(12, 0), 0);
        check.due("nothing is left", far.sheet(0, 0), 0);
    }

    @Sentence(section = "Terms", words = "the greatest that can.")
    static void theGreatestThatCanIsPeeled(Check check) {
        PartitionPress press = Desk.with(2, 2);
        check.due("2 2 by 2", press.peel(2, 0), 1);
        check.due("the first row's", Sums.read(press, 0), 1, 1);
        PartitionPress second = Desk.with(4, 2, 2);
        check.due("4 2 2 by 2", second.peel(2, 0), 1);
        check.due("the first row's", Sums.read(second, 0), 2, 2, 2);
        PartitionPress below = Desk.with(3, 2, 2);
        check.due("3 2 2 by 2", below.peel(2, 0), 1);
        check.due("the first row has none: the second one's", Sums.read(below, 0), 3, 1, 1);
    }

    @Sentence(section = "Terms", words = "FILLINGS of a SUM of n up to 30")
    static void fillingsAreOfNUpTo30(Check check) {
        PartitionPress press = Desk.with(15, 15);
        check.due("fillings of 15 15", press.fillings(0), 9694845);
        check.due("filling of 30", press.filling(0, 0, 30), 1);
        press.part(0, 1);
        check.due("fillings of 31", press.fillings(0), RANGE);
        check.due("filling of 31", press.filling(0, 0, 30), RANGE);
        check.due("fillings of no SQUARES", press.fillings(1), 1);
    }

    @Sentence(section = "Terms", words = "1 .. n set in its SQUARES, rising right and down.")
    static void fillingsRiseRightAndDown(Check check) {
        int[] sum = {3, 2, 1};
        PartitionPress press = Desk.with(sum);
        long many = press.fillings(0);
        check.due("fillings", many, 16);
        for (long x = 0; x < many; x++) {
            int[] used = new int[3];
            for (int v = 1; v <= 6; v++) {
                int row = press.filling(0, x, v);
                used[row]++;
                check.holds("the row has a SQUARE", used[row] <= sum[row]);
                check.holds("the SQUARE above has less", row == 0 || used[row] <= used[row - 1]);
            }
        }
    }

    /** What sheet() tells of the rank (3) or crank (4) of a SUM. */
    private static int told(int what, int... sum) {
        return Desk.with(sum).sheet(0, what) - 1000;
    }

    @Sentence(section = "Terms", words = "The rank of a SUM: its first PART less how many PARTS there are (0 of no PARTS).")
    static void theRank(Check check) {
        check.due("of no PARTS", told(3), 0);
        check.due("of 1", told(3, 1), 0);
        check.due("of 400", told(3, 400), 399);
        check.due("of 400 PARTS 1", told(3, Desk.ones(400)), -399);
        check.due("of 2 2 2", told(3, 2, 2, 2), -1);
    }

    @Sentence(section = "Terms", words = "The crank: without a PART 1 the first PART (0 of no PARTS)")
    static void theCrankWithoutAPartOne(Check check) {
        check.due("of no PARTS", told(4), 0);
        check.due("of 2", told(4, 2), 2);
        check.due("of 400", told(4, 400), 400);
        check.due("of 7 2", told(4, 7, 2), 7);
    }

    @Sentence(section = "Terms", words = "with w PARTS 1: how many PARTS are above w, less w.")
    static void theCrankWithPartsOne(Check check) {
        check.due("of 1", told(4, 1), -1);
        check.due("of 2 1", told(4, 2, 1), 0);
        check.due("of 2 1 1: 2 is not above 2", told(4, 2, 1, 1), -2);
        check.due("of 3 2 1 1: 3 is", told(4, 3, 2, 1, 1), -1);
        check.due("of 3 3 3 1", told(4, 3, 3, 3, 1), 2);
        check.due("of 400 PARTS 1", told(4, Desk.ones(400)), -400);
        check.due("of 399 1", told(4, 399, 1), 0);
    }

    @Sentence(section = "Terms", words = "heap(): how many SUMS of n have a rank (kind 0), or crank (kind 1), whose rest by m is r")
    static void heapsByRanksAndCranks(Check check) {
        PartitionPress press = new PartitionPress();
        for (int m : new int[] {1, 2, 7, 60}) {
            check.due("rank of no PARTS by " + m, press.heap(0, 0, m, 0), 1);
            check.due("crank of no PARTS by " + m, press.heap(1, 0, m, 0), 1);
            check.due("no other rest, by " + m, m == 1 ? 0 : press.heap(0, 0, m, m - 1), 0);
            check.due("no other rest, by " + m, m == 1 ? 0 : press.heap(1, 0, m, m - 1), 0);
        }
        check.due("all of 60 by 1", press.heap(0, 60, 1, 0), 966467);
        check.due("all of 60 by 1", press.heap(1, 60, 1, 0), 966467);
        for (int r = 0; r < 5; r++) {
            check.due("ranks of 4 by 5", press.heap(0, 4, 5, r), 1);
        }
        for (int r = 0; r < 11; r++) {
            check.due("cranks of 17 by 11", press.heap(1, 17, 11, r), 297 / 11);
        }
    }

    @Sentence(section = "Terms", words = "(0 or above, of those below 0, too)")
    static void restsOfThoseBelowNone(Check check) {
        PartitionPress press = new PartitionPress();
        check.due("rank 1 of 2", press.heap(0, 2, 60, 1), 1);
        check.due("rank -1 of 1 1", press.heap(0, 2, 60, 59), 1);
        check.due("rank 0: none of 2", press.heap(0, 2, 60, 0), 0);
        check.due("crank 2 of 2", press.heap(1, 2, 60, 2), 1);
        check.due("crank -2 of 1 1", press.heap(1, 2, 60, 58), 1);
        check.due("crank -1 of 1", press.heap(1, 1, 60, 59), 1);
        check.due("crank -1 of 1 by 2", press.heap(1, 1, 2, 1), 1);
        check.due("rank -59 of 60 PARTS 1, by 60", press.heap(0, 60, 60, 1), ranks(60, 60, 1));
        check.due("crank -60 of 60 PARTS 1, by 60", press.heap(1, 60, 60, 0), cranks(60, 60, 0));
    }

    private static long ranks(int n, int m, int r) {
        long many = 0;
        for (int[] sum : Sums.all(n)) {
            many += Math.floorMod(Sums.rank(sum), m) == r ? 1 : 0;
        }
        return many;
    }

    private static long cranks(int n, int m, int r) {
        long many = 0;
        for (int[] sum : Sums.all(n)) {
            many += Math.floorMod(Sums.crank(sum), m) == r ? 1 : 0;
        }
        return many;
    }
}
