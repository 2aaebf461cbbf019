/** The sentences of the promises 9 to 13: law, clash, count, rank, tell. */
public final class PromisesLawsTest {
    private static final int NONE = PartitionPress.NONE;
    private static final int RANGE = PartitionPress.RANGE;
    private static final int KIND = PartitionPress.KIND;
    private static final int FAR = Integer.MAX_VALUE;

    private PromisesLawsTest() {
    }

    public static void main(String[] args) {
        Sentences.run(PromisesLawsTest.class);
    }

    // ---- promise 9

    @Sentence(section = "Promise 9", words = "LAW l is of a kind")
    static void lawsAreOfKinds0To5(Check check) {
        PartitionPress press = new PartitionPress();
        check.due("kind 1", press.law(7, 1, 2, 2, 0, 0), 0);
        check.due("kind 2", press.law(7, 2, 1, 1, 0, 1), 1);
        check.due("kind 3", press.law(7, 3, 1, 1, 0, 0), 2);
        check.due("kind 4", press.law(7, 4, 0, 0, 0, 0), 3);
        check.due("kind 5", press.law(7, 5, 2, 0, 0, 0), 4);
        check.due("kind 0", press.law(7, 0, 0, 0, 0, 0), 5);
        check.due("the others stay", press.told(6), 0);
        Desk.refused(check, RANGE, p -> p.law(1, -1, 0, 0, 0, 0), p -> p.law(1, 6, 0, 0, 0, 0), p -> p.law(1, 6, 2, 0, 0, 0),
            p -> p.law(1, FAR, 0, 0, 0, 0), p -> p.law(1, Integer.MIN_VALUE, 0, 0, 0, 0));
    }

    @Sentence(section = "Promise 9", words = "1 PARTS (m")
    static void partsByM(Check check) {
        PartitionPress press = new PartitionPress();
        check.due("m 1", press.law(0, 1, 1, 1, 0, 0), 0);
        check.due("m 12", press.law(0, 1, 12, 1, 0, 0), 1);
        Desk.refused(check, RANGE, p -> p.law(1, 1, 0, 1, 0, 0), p -> p.law(1, 1, 13, 1, 0, 0), p -> p.law(1, 1, -1, 1, 0, 0),
            p -> p.law(1, 1, FAR, 1, 0, 0), p -> p.law(1, 1, Integer.MIN_VALUE, 1, 0, 0));
    }

    @Sentence(section = "Promise 9", words = "set 0 .. 4095")
    static void partsBySet(Check check) {
        PartitionPress press = new PartitionPress();
        check.due("set 0", press.law(0, 1, 12, 0, 0, 0), 0);
        check.due("no PART is allowed", press.count(0, 400), 0);
        check.due("set 4095", press.law(0, 1, 12, 4095, 0, 0), 1);
        check.due("all PARTS are allowed", press.count(0, 400), Desk.ALL_OF_400);
        Desk.refused(check, RANGE, p -> p.law(1, 1, 2, -1, 0, 0), p -> p.law(1, 1, 2, 4096, 0, 0), p -> p.law(1, 1, 2, FAR, 0, 0),
            p -> p.law(1, 1, 2, Integer.MIN_VALUE, 0, 0));
    }

    @Sentence(section = "Promise 9", words = "c 0 .. 400)")
    static void partsByTimes(Check check) {
        PartitionPress press = new PartitionPress();
        check.due("c 0", press.law(0, 1, 1, 1, 0, 0), 0);
        check.due("any times", press.count(0, 400), Desk.ALL_OF_400);
        check.due("c 400", press.law(0, 1, 1, 1, 400, 0), 1);
        check.due("400 times", press.count(0, 400), Desk.ALL_OF_400);
        check.due("c 1", press.law(0, 1, 1, 1, 1, 0), 1);
        check.due("unlike PARTS of 10", press.count(0, 10), 10);
        Desk.refused(check, RANGE, p -> p.law(1, 1, 2, 1, -1, 0), p -> p.law(1, 1, 2, 1, 401, 0), p -> p.law(1, 1, 2, 1, FAR, 0),
            p -> p.law(1, 1, 2, 1, Integer.MIN_VALUE, 0));
    }

    @Sentence(section = "Promise 9", words = "2 GAPS (d, m, e, a)")
    static void gapsByTheirNumbers(Check check) {
        PartitionPress press = new PartitionPress();
        check.due("the least", press.law(0, 2, 0, 1, 0, 1), 0);
        check.due("d 20", press.law(0, 2, 20, 1, 0, 1), 2);
        check.due("m 12", press.law(0, 2, 0, 12, 0, 1), 2);
        check.due("e 5", press.law(0, 2, 0, 1, 5, 1), 2);
        check.due("a 20", press.law(0, 2, 0, 1, 0, 20), 2);
        check.due("the greatest", press.law(0, 2, 20, 12, 5, 20), 2);
        // 36 is a multiple of 12: 25 at least must lie behind it.
        check.due("the greatest, of 56: 56 alone, as 36 20 is too near", press.count(0, 56), 1);
        check.due("the greatest, of 60: 60 and 40 20", press.count(0, 60), 2);
        Desk.refused(check, RANGE, p -> p.law(1, 2, -1, 1, 0, 1), p -> p.law(1, 2, 21, 1, 0, 1), p -> p.law(1, 2, 0, 0, 0, 1),
            p -> p.law(1, 2, 0, 13, 0, 1), p -> p.law(1, 2, 0, 1, -1, 1), p -> p.law(1, 2, 0, 1, 6, 1), p -> p.law(1, 2, 0, 1, 0, 0),
            p -> p.law(1, 2, 0, 1, 0, 21), p -> p.law(1, 2, 0, 1, 0, -1), p -> p.law(1, 2, FAR, 1, 0, 1),
            p -> p.law(1, 2, 0, Integer.MIN_VALUE, 0, 1), p -> p.law(1, 2, 0, 1, FAR, 1), p -> p.law(1, 2, 0, 1, 0, FAR));
    }

    @Sentence(section = "Promise 9", words = "3 FEW (p, q)")
    static void fewByTheirNumbers(Check check) {
        PartitionPress press = new PartitionPress();
        check.due("0 and 0", press.law(0, 3, 0, 0, 0, 0), 0);
        check.due("of 0", press.count(0, 0), 1);
        check.due("of 1", press.count(0, 1), 0);
        check.due("60 and 60", press.law(0, 3, 60, 60, 0, 0), 3);
        check.due("of 60", press.count(0, 60), 966467);
        check.due("2 and 5", press.law(0, 3, 2, 5, 0, 0), 3);
        check.due("p is 2 and q is 5, of 10", press.count(0, 10), 1);
        check.due("p is 2 and q is 5, of 5", press.count(0, 5), 3);
        Desk.refused(check, RANGE, p -> p.law(1, 3, -1, 0, 0, 0), p -> p.law(1, 3, 61, 0, 0, 0), p -> p.law(1, 3, 0, -1, 0, 0),
            p -> p.law(1, 3, 0, 61, 0, 0), p -> p.law(1, 3, FAR, 0, 0, 0), p -> p.law(1, 3, 0, Integer.MIN_VALUE, 0, 0));
    }

    @Sentence(section = "Promise 9", words = "5 CORES (t)")
    static void coresByT(Check check) {
        PartitionPress press = new PartitionPress();
        check.due("t 2", press.law(0, 5, 2, 0, 0, 0), 0);
        check.due("stairs of 3", press.count(0, 3), 1);
        check.due("t 12", press.law(0, 5, 12, 0, 0, 0), 5);
        check.due("all of 11", press.count(0, 11), 56);
        Desk.refused(check, RANGE, p -> p.law(1, 5, 1, 0, 0, 0), p -> p.law(1, 5, 13, 0, 0, 0), p -> p.law(1, 5, 0, 0, 0, 0),
            p -> p.law(1, 5, -2, 0, 0, 0), p -> p.law(1, 5, FAR, 0, 0, 0), p -> p.law(1, 5, Integer.MIN_VALUE, 0, 0, 0));
    }

    @Sentence(section = "Promise 9", words = "numbers that it doesn't have are 0")
    static void numbersThatALawDoesNotHave(Check check) {
        Desk.refused(check, RANGE, p -> p.law(1, 0, 1, 0, 0, 0), p -> p.law(1, 0, 0, 1, 0, 0), p -> p.law(1, 0, 0, 0, 1, 0),
            p -> p.law(1, 0, 0, 0, 0, 1), p -> p.law(1, 0, 0, 0, 0, -1), p -> p.law(1, 1, 2, 2, 0, 1), p -> p.law(1, 1, 2, 2, 0, -1),
            p -> p.law(1, 3, 1, 1, 1, 0), p -> p.law(1, 3, 1, 1, 0, 1), p -> p.law(1, 3, 1, 1, -1, 0), p -> p.law(1, 4, 1, 0, 0, 0),
            p -> p.law(1, 4, 0, 1, 0, 0), p -> p.law(1, 4, 0, 0, 1, 0), p -> p.law(1, 4, 0, 0, 0, 1), p -> p.law(1, 4, -1, 0, 0, 0),
            p -> p.law(1, 5, 2, 1, 0, 0), p -> p.law(1, 5, 2, 0, 1, 0), p -> p.law(1, 5, 2, 0, 0, 1), p -> p.law(1, 5, 2, 0, 0, -1));
    }

    @Sentence(section = "Promise 9", words = "the kind it was")
    static void lawTellsTheKindItWas(Check check) {
        PartitionPress press = new PartitionPress();
        check.due("at first", press.law(3, 4, 0, 0, 0, 0), 0);
        check.due("then", press.law(3, 1, 1, 0, 0, 0), 4);
        check.due("refused", press.law(3, 6, 0, 0, 0, 0), RANGE);
        check.due("the refused one is not the kind it was", press.law(3, 1, 1, 1, 0, 0), 1);
        check.due("of the same kind", press.law(3, 1, 1, 1, 0, 0), 1);
        check.due("another LAW", press.law(4, 1, 1, 1, 0, 0), 0);
        check.due("no ACT", press.told(8), 0);
    }

    @Sentence(section = "Promise 9", words = "the kind it was; RANGE.")
    static void lawOfNoSuchNumber(Check check) {
        check.due("LAW 0", new PartitionPress().law(0, 4, 0, 0, 0, 0), 0);
        check.due("LAW 7", new PartitionPress().law(7, 4, 0, 0, 0, 0), 0);
        Desk.refused(check, RANGE, p -> p.law(-1, 4, 0, 0, 0, 0), p -> p.law(8, 4, 0, 0, 0, 0), p -> p.law(FAR, 4, 0, 0, 0, 0),
            p -> p.law(Integer.MIN_VALUE, 4, 0, 0, 0, 0));
    }

    // ---- promise 10

    /** What clash() answers for a SUM by a LAW of these numbers. */
    private static int clash(int kind, int a, int b, int c, int d, int[] sum) {
        PartitionPress press = Desk.with(sum);
        press.law(2, kind, a, b, c, d);
        return press.clash(2, 0);
    }

    private static int[] sum(int... parts) {
        return parts;
    }

    @Sentence(section = "Promise 10", words = "The first PART (from 0 on) of a SHEET that a LAW doesn't allow")
    static void clashTellsTheFirst(Check check) {
        check.due("both are wrong", clash(1, 2, 1, 0, 0, sum(3, 1)), 0);
        check.due("the second and third are wrong", clash(1, 2, 1, 0, 0, sum(4, 3, 1)), 1);
        check.due("the last of 400 is wrong", clash(1, 1, 1, 399, 0, Desk.ones(400)), 399);
        check.due("the last is wrong", clash(1, 2, 1, 0, 0, sum(4, 2, 1)), 2);
    }

    @Sentence(section = "Promise 10", words = "PARTS: of a wrong rest")
    static void clashOfAWrongRest(Check check) {
        check.due("rest 0 by 12", clash(1, 12, 1, 0, 0, sum(24, 12, 11)), 2);
        check.due("rest 11 by 12", clash(1, 12, 2048, 0, 0, sum(23, 12, 11)), 1);
        check.due("no rest", clash(1, 1, 0, 0, 0, sum(7)), 0);
        check.due("no rest, no PARTS", clash(1, 1, 0, 0, 0, sum()), NONE);
    }

    @Sentence(section = "Promise 10", words = "or once too often")
    static void clashOnceTooOften(Check check) {
        check.due("c 1: twice", clash(1, 1, 1, 1, 0, sum(5, 5)), 1);
        check.due("c 2: twice", clash(1, 1, 1, 2, 0, sum(5, 5, 4, 4)), NONE);
        check.due("c 2: three times", clash(1, 1, 1, 2, 0, sum(5, 5, 4, 4, 4, 4)), 4);
        check.due("c 400: 400 times", clash(1, 1, 1, 400, 0, Desk.ones(400)), NONE);
        check.due("c 0: 400 times", clash(1, 1, 1, 0, 0, Desk.ones(400)), NONE);
        check.due("a wrong rest comes first", clash(1, 2, 2, 1, 0, sum(4, 3, 3)), 0);
    }

    @Sentence(section = "Promise 10", words = "GAPS: too near to the one ahead of it")
    static void clashTooNear(Check check) {
        check.due("d 2: 5 3", clash(2, 2, 1, 0, 1, sum(5, 3)), NONE);
        check.due("d 2: 5 4", clash(2, 2, 1, 0, 1, sum(5, 4)), 1);
        check.due("d 2, e 3 behind multiples of 5: 10 5", clash(2, 2, 5, 3, 1, sum(10, 5)), NONE);
        check.due("d 2, e 3 behind multiples of 5: 10 6", clash(2, 2, 5, 3, 1, sum(10, 6)), 1);
        check.due("d 2, e 3 behind multiples of 5: 12 10 5 1", clash(2, 2, 5, 3, 1, sum(12, 10, 5, 1)), 3);
        check.due("d 0: 5 5", clash(2, 0, 1, 0, 1, sum(5, 5)), NONE);
        check.due("one PART", clash(2, 20, 1, 5, 1, sum(1)), NONE);
    }

    @Sentence(section = "Promise 10", words = "or, if it is the last one, below a")
    static void clashOfALastOneBelowA(Check check) {
        check.due("a 4: 9 4", clash(2, 0, 1, 0, 4, sum(9, 4)), NONE);
        check.due("a 4: 9 3", clash(2, 0, 1, 0, 4, sum(9, 3)), 1);
        check.due("a 4: 3 3, the last one alone is asked", clash(2, 0, 1, 0, 4, sum(3, 3)), 1);
        check.due("a 4: 9 3 2, the last one alone is asked", clash(2, 0, 1, 0, 4, sum(9, 3, 2)), 2);
        check.due("a 4: 3", clash(2, 0, 1, 0, 4, sum(3)), 0);
        check.due("a 4, d 1: 3 3 2, too near comes first", clash(2, 1, 1, 0, 4, sum(3, 3, 2)), 1);
        check.due("a 20: no PARTS", clash(2, 20, 1, 5, 20, sum()), NONE);
    }

    @Sentence(section = "Promise 10", words = "FEW: the (p + 1)-th")
    static void clashOfOneTooMany(Check check) {
        check.due("p 2: two", clash(3, 2, 60, 0, 0, sum(4, 4)), NONE);
        check.due("p 2: three", clash(3, 2, 60, 0, 0, sum(4, 4, 4)), 2);
        check.due("p 0: one", clash(3, 0, 60, 0, 0, sum(4)), 0);
        check.due("p 60: 60", clash(3, 60, 60, 0, 0, Desk.ones(60)), NONE);
        check.due("p 60: 61", clash(3, 60, 60, 0, 0, Desk.ones(61)), 60);
    }

    @Sentence(section = "Promise 10", words = "or above q")
    static void clashAboveQ(Check check) {
        check.due("q 5: 5", clash(3, 9, 5, 0, 0, sum(5, 1)), NONE);
        check.due("q 5: 6", clash(3, 9, 5, 0, 0, sum(6, 1)), 0);
        check.due("q 0: 1", clash(3, 9, 0, 0, 0, sum(1)), 0);
        check.due("q 60: 60", clash(3, 60, 60, 0, 0, sum(60)), NONE);
        check.due("above q comes before too many", clash(3, 1, 5, 0, 0, sum(6, 1)), 0);
        check.due("0 and 0: no PARTS", clash(3, 0, 0, 0, 0, sum()), NONE);
    }

    @Sentence(section = "Promise 10", words = "OWN: the first that isn't the same in it TURNED")
    static void clashOfOwn(Check check) {
        check.due("no PARTS", clash(4, 0, 0, 0, 0, sum()), NONE);
        check.due("1", clash(4, 0, 0, 0, 0, sum(1)), NONE);
        check.due("3 1 1", clash(4, 0, 0, 0, 0, sum(3, 1, 1)), NONE);
        check.due("2", clash(4, 0, 0, 0, 0, sum(2)), 0);
        check.due("1 1", clash(4, 0, 0, 0, 0, sum(1, 1)), 0);
        check.due("3 3 1, TURNED 3 2 2", clash(4, 0, 0, 0, 0, sum(3, 3, 1)), 1);
        check.due("4 4 3 3, TURNED 4 4 4 2", clash(4, 0, 0, 0, 0, sum(4, 4, 3, 3)), 2);
        check.due("400", clash(4, 0, 0, 0, 0, sum(400)), 0);
        check.due("400 PARTS 1", clash(4, 0, 0, 0, 0, Desk.ones(400)), 0);
    }

    @Sentence(section = "Promise 10", words = "CORES: the first in whose row there is such a HOOK.")
    static void clashOfCores(Check check) {
        check.due("t 2: no PARTS", clash(5, 2, 0, 0, 0, sum()), NONE);
        check.due("t 2: 3 2 1", clash(5, 2, 0, 0, 0, sum(3, 2, 1)), NONE);
        check.due("t 2: 3 1", clash(5, 2, 0, 0, 0, sum(3, 1)), 0);
        check.due("t 2: 3 2 2", clash(5, 2, 0, 0, 0, sum(3, 2, 2)), 1);
        check.due("t 12: 400", clash(5, 12, 0, 0, 0, sum(400)), 0);
        check.due("t 12: 400 PARTS 1, the twelfth from the last", clash(5, 12, 0, 0, 0, Desk.ones(400)), 388);
        check.due("t 12: 11 PARTS 1", clash(5, 12, 0, 0, 0, Desk.ones(11)), NONE);
        check.due("t 12: 12 PARTS 1", clash(5, 12, 0, 0, 0, Desk.ones(12)), 0);
    }

    @Sentence(section = "Promise 10", words = "NONE if it allows the SUM (any n but of FEW: above 60 is not asked here)")
    static void clashNoneIfAllowed(Check check) {
        check.due("ANY: no PARTS", clash(0, 0, 0, 0, 0, sum()), NONE);
        check.due("ANY: 400", clash(0, 0, 0, 0, 0, sum(400)), NONE);
        check.due("PARTS: 400", clash(1, 2, 1, 0, 0, sum(400)), NONE);
        check.due("GAPS: 399 1", clash(2, 20, 1, 5, 1, sum(399, 1)), NONE);
        check.due("FEW: 60", clash(3, 2, 60, 0, 0, sum(60)), NONE);
        check.due("FEW: 60 1, above 60 is not asked", clash(3, 2, 60, 0, 0, sum(60, 1)), NONE);
        check.due("FEW: 60 60 60 60 60 60 40 of 400", clash(3, 7, 60, 0, 0, sum(60, 60, 60, 60, 60, 60, 40)), NONE);
        check.due("FEW: 61", clash(3, 60, 60, 0, 0, sum(61)), 0);
    }

    @Sentence(section = "Promise 10", words = "not asked here); RANGE.")
    static void clashOfNoSuch(Check check) {
        check.due("LAW 0, SHEET 0", new PartitionPress().clash(0, 0), NONE);
        check.due("LAW 7, SHEET 7", new PartitionPress().clash(7, 7), NONE);
        Desk.refused(check, RANGE, p -> p.clash(-1, 0), p -> p.clash(8, 0), p -> p.clash(0, -1), p -> p.clash(0, 8), p -> p.clash(8, 8),
            p -> p.clash(FAR, 0), p -> p.clash(0, FAR), p -> p.clash(Integer.MIN_VALUE, 0), p -> p.clash(0, Integer.MIN_VALUE));
    }

    /** kind, a, b, c, d of LAWS, those that rank() and tell() take first. */
    private static final int[][] LAWS = {{0, 0, 0, 0, 0}, {1, 2, 2, 0, 0}, {1, 1, 1, 1, 0}, {1, 1, 1, 2, 0}, {1, 1, 1, 3, 0}, {1, 3, 6, 2, 0},
        {2, 1, 1, 0, 1}, {2, 2, 1, 0, 1}, {2, 0, 2, 1, 1}, {2, 1, 3, 2, 2}, {2, 20, 12, 5, 1}, {3, 3, 4, 0, 0}, {3, 2, 8, 0, 0}, {3, 8, 3, 0, 0},
        {3, 4, 9, 0, 0}, {4, 0, 0, 0, 0}, {5, 2, 0, 0, 0}, {5, 3, 0, 0, 0}};
    private static final int RANKED = 15;
    private static final int MOST_LISTED = 9;

    /** The SUMS of n that a LAW allows, by ORDER. */
    private static java.util.List<int[]> allowed(int[] law, int n) {
        java.util.List<int[]> found = Sums.all(n);
        found.removeIf(sum -> Sums.clash(law, sum) != NONE);
        return found;
    }

    private static PartitionPress under(int[] law, int... sum) {
        PartitionPress press = Desk.with(sum);
        press.law(1, law[0], law[1], law[2], law[3], law[4]);
        return press;
    }

    // ---- promise 11

    @Sentence(section = "Promise 11", words = "How many SUMS of n a LAW allows")
    static void countTellsHowMany(Check check) {
        // n 0 has one SUM, without PARTS, that each LAW allows.
        int[][] laws = {{0, 0, 0, 0, 0}, {1, 1, 0, 1, 0}, {2, 20, 1, 5, 20}, {3, 0, 0, 0, 0}, {4, 0, 0, 0, 0}, {5, 2, 0, 0, 0}};
        long[] of1 = {1, 0, 0, 0, 1, 1};
        long[] of2 = {2, 0, 0, 0, 0, 0};
        PartitionPress press = new PartitionPress();
        for (int i = 0; i < laws.length; i++) {
            press.law(1, laws[i][0], laws[i][1], laws[i][2], laws[i][3], laws[i][4]);
            check.due("kind " + i + ", of 2", press.count(1, 2), of2[i]);
            check.due("kind " + i + ", of 0", press.count(1, 0), 1);
            check.due("kind " + i + ", of 1", press.count(1, 1), of1[i]);
        }
        check.due("of 400", press.count(0, 400), Desk.ALL_OF_400);
        check.due("of 399, behind 400", press.count(0, 399), 6324621482504294325L);
        check.due("of 0, behind 400", press.count(0, 0), 1);
        check.due("of 400 by stairs", press.count(1, 400), 0);
        check.due("of 378 by stairs", press.count(1, 378), 1);
        for (int[] law : LAWS) {
            for (int n = 0; n <= MOST_LISTED; n++) {
                check.due("of " + n + " by " + java.util.Arrays.toString(law), under(law).count(1, n), allowed(law, n).size());
            }
        }
    }

    @Sentence(section = "Promise 11", words = "RANGE: no such LAW")
    static void countOfNoSuchLaw(Check check) {
        Desk.refused(check, RANGE, p -> p.count(-1, 0), p -> p.count(8, 0), p -> p.count(FAR, 0), p -> p.count(Integer.MIN_VALUE, 0));
    }

    @Sentence(section = "Promise 11", words = "n is not 0 .. 400")
    static void countOfNoSuchN(Check check) {
        for (int l : new int[] {0, 1, 2, 4, 5}) {
            check.holds("400 by LAW " + l, Desk.laid().count(l, 400) >= 0);
            Desk.refused(check, RANGE, p -> p.count(l, -1), p -> p.count(l, 401), p -> p.count(l, FAR), p -> p.count(l, Integer.MIN_VALUE));
        }
    }

    @Sentence(section = "Promise 11", words = "(FEW: 60).")
    static void countOfFewUpTo60(Check check) {
        PartitionPress press = Desk.laid();
        check.due("of 60", press.count(7, 60), 966467);
        check.due("of 0", press.count(7, 0), 1);
        Desk.refused(check, RANGE, p -> p.count(7, 61), p -> p.count(7, 400), p -> p.count(7, 401), p -> p.count(7, -1), p -> p.count(3, 61));
        press.law(7, 0, 0, 0, 0, 0);
        check.due("of 61, the LAW being ANY again", press.count(7, 61), 1121505);
    }

    // ---- promise 12

    @Sentence(section = "Promise 12", words = "How many SUMS of the same n that a LAW (of kinds 0 to 3) allows come ahead of a SHEET's")
    static void rankTellsHowManyComeAhead(Check check) {
        PartitionPress press = Desk.laid();
        check.due("ANY: 400 is the first", press.rank(0, 1), 0);
        check.due("ANY: 400 PARTS 1 is the last", press.rank(0, 7), Desk.ALL_OF_400 - 1);
        check.due("ANY: no PARTS", press.rank(0, 2), 0);
        check.due("PARTS: 400 PARTS 1 is the last", press.rank(1, 7), press.count(1, 400) - 1);
        check.due("GAPS: 400 is the first", press.rank(2, 1), 0);
        check.due("GAPS: 31 30 is none", press.rank(2, 6), KIND);
        check.due("FEW: no PARTS", press.rank(3, 2), 0);
        Desk.put(press, 2, 1);
        check.due("FEW: 1", press.rank(3, 2), 0);
        press.tell(7, 60, 966466, 2);
        check.due("FEW: 60 PARTS 1", press.rank(7, 2), 966466);
        press.tell(3, 12, 0, 2);
        check.due("FEW: 4 4 4 is the only one", press.rank(3, 2), 0);
        press.tell(6, 400, press.count(6, 400) - 1, 2);
        check.due("unlike PARTS, the last", press.rank(6, 2), press.count(6, 400) - 1);
    }

    @Sentence(section = "Promise 12", words = "How many SUMS of the same n that a LAW (of kinds 0 to 3) allows come ahead")
    static void rankOfEachThatIsAllowed(Check check) {
        for (int l = 0; l < RANKED; l++) {
            for (int n = 0; n <= MOST_LISTED; n++) {
                java.util.List<int[]> allowed = allowed(LAWS[l], n);
                for (int i = 0; i < allowed.size(); i++) {
                    check.due("of " + java.util.Arrays.toString(allowed.get(i)) + " by " + java.util.Arrays.toString(LAWS[l]),
                        under(LAWS[l], allowed.get(i)).rank(1, 0), i);
                }
            }
        }
    }

    @Sentence(section = "Promise 12", words = "that a LAW (of kinds 0 to 3) allows come ahead of a SHEET's")
    static void rankBehindOneByAnotherLaw(Check check) {
        // 4 is allowed by the one LAW, and not by the other one.
        PartitionPress press = Desk.with(4);
        Desk.put(press, 1, 3, 1);
        press.law(1, 1, 2, 2, 1, 0);
        check.due("4 by ANY", press.rank(0, 0), 0);
        check.due("3 1 by unlike odd PARTS", press.rank(1, 1), 0);
        check.due("3 1 by ANY", press.rank(0, 1), 1);
        check.due("the first of 4 by ANY", press.tell(0, 4, 0, 2), 1);
        check.due("the first of 4 by unlike odd PARTS", press.tell(1, 4, 0, 2), 2);
    }

    @Sentence(section = "Promise 12", words = "RANGE: no such, or")
    static void rankOfNoSuch(Check check) {
        Desk.refused(check, RANGE, p -> p.rank(-1, 0), p -> p.rank(8, 0), p -> p.rank(0, -1), p -> p.rank(0, 8), p -> p.rank(8, 8),
            p -> p.rank(FAR, 0), p -> p.rank(0, FAR), p -> p.rank(Integer.MIN_VALUE, 0), p -> p.rank(0, Integer.MIN_VALUE));
    }

    @Sentence(section = "Promise 12", words = "or another kind")
    static void rankByAnotherKind(Check check) {
        // SHEET 3 (3 2 1) is OWN and no core by 3; SHEET 2 (no PARTS) is both OWN and a core.
        Desk.refused(check, RANGE, p -> p.rank(4, 3), p -> p.rank(4, 2), p -> p.rank(5, 3), p -> p.rank(5, 2), p -> p.rank(4, 0),
            p -> p.rank(5, 1));
    }

    @Sentence(section = "Promise 12", words = "(FEW: n above 60)")
    static void rankByFewOfNAbove60(Check check) {
        PartitionPress press = Desk.with(30, 30);
        press.law(1, 3, 60, 60, 0, 0);
        check.holds("of 60", press.rank(1, 0) > 0);
        press.part(0, 1);
        check.due("of 61", press.rank(1, 0), RANGE);
        Desk.refused(check, RANGE, p -> p.rank(7, 6), p -> p.rank(7, 1), p -> p.rank(7, 7));
    }

    @Sentence(section = "Promise 12", words = "KIND: it isn't allowed.")
    static void rankOfOneThatIsNotAllowed(Check check) {
        Desk.refused(check, KIND, p -> p.rank(1, 0), p -> p.rank(1, 1), p -> p.rank(2, 3), p -> p.rank(2, 7), p -> p.rank(3, 0),
            p -> p.rank(3, 4), p -> p.rank(6, 4), p -> p.rank(6, 7));
    }

    @Sentence(section = "Promise 12", words = "(FEW: n above 60); KIND: it isn't allowed.")
    static void rankRangeGoesBeforeKind(Check check) {
        // By FEW of 3 PARTS up to 4, 31 30 of 61 is not allowed, too; nor is 5 4 1 by OWN and CORES.
        Desk.refused(check, RANGE, p -> p.rank(3, 6), p -> p.rank(3, 1), p -> p.rank(3, 7), p -> p.rank(4, 0), p -> p.rank(5, 0),
            p -> p.rank(6, 8), p -> p.rank(1, -1));
    }

    // ---- promise 13

    @Sentence(section = "Promise 13", words = "SHEET s has the SUM of n with a rank by a LAW (kinds 0 to 3): how many PARTS")
    static void tellTellsHowManyParts(Check check) {
        PartitionPress press = Desk.laid();
        check.due("ANY, of 0", press.tell(0, 0, 0, 0), 0);
        check.due("SHEET 0", press.sheet(0, 1), 0);
        check.due("ANY, of 1", press.tell(0, 1, 0, 0), 1);
        check.due("ANY, the first of 400", press.tell(0, 400, 0, 0), 1);
        check.due("ANY, the last of 400", press.tell(0, 400, Desk.ALL_OF_400 - 1, 0), 400);
        check.due("PARTS, the first of 400", press.tell(1, 400, 0, 0), 2);
        check.due("399 1", Sums.read(press, 0), 399, 1);
        check.due("GAPS, the last of 4", press.tell(2, 4, 1, 0), 2);
        check.due("3 1", Sums.read(press, 0), 3, 1);
        check.due("FEW, the only one of 12", press.tell(3, 12, 0, 0), 3);
        check.due("4 4 4", Sums.read(press, 0), 4, 4, 4);
        check.due("FEW, the last of 60", press.tell(7, 60, 966466, 7), 60);
        check.due("SHEET 7", press.sheet(7, 159), 1);
        check.due("unlike PARTS, the last of 400", press.tell(6, 400, press.count(6, 400) - 1, 0), 27);
    }

    @Sentence(section = "Promise 13", words = "SHEET s has the SUM of n with a rank by a LAW")
    static void tellOfEachRank(Check check) {
        for (int l = 0; l < RANKED; l++) {
            for (int n = 0; n <= MOST_LISTED; n++) {
                java.util.List<int[]> allowed = allowed(LAWS[l], n);
                for (int i = 0; i < allowed.size(); i++) {
                    PartitionPress press = under(LAWS[l]);
                    check.due("PARTS", press.tell(1, n, i, 7), allowed.get(i).length);
                    check.due(i + " of " + n + " by " + java.util.Arrays.toString(LAWS[l]), Sums.read(press, 7), allowed.get(i));
                }
            }
        }
    }

    @Sentence(section = "Promise 13", words = "RANGE: no such")
    static void tellOfNoSuch(Check check) {
        Desk.refused(check, RANGE, p -> p.tell(-1, 5, 0, 0), p -> p.tell(8, 5, 0, 0), p -> p.tell(0, 5, 0, -1), p -> p.tell(0, 5, 0, 8),
            p -> p.tell(0, -1, 0, 0), p -> p.tell(0, 401, 0, 0), p -> p.tell(0, FAR, 0, 0), p -> p.tell(0, Integer.MIN_VALUE, 0, 0),
            p -> p.tell(FAR, 5, 0, 0), p -> p.tell(0, 5, 0, FAR), p -> p.tell(3, 61, 0, 0), p -> p.tell(7, 61, 0, 0),
            p -> p.tell(7, 400, 0, 0), p -> p.tell(4, 3, 0, 0), p -> p.tell(5, 2, 0, 0), p -> p.tell(4, 0, 0, 0), p -> p.tell(5, 0, 0, 0));
    }

    @Sentence(section = "Promise 13", words = "or rank below 0")
    static void tellOfARankBelowNone(Check check) {
        Desk.refused(check, RANGE, p -> p.tell(0, 5, -1, 0), p -> p.tell(0, 0, -1, 0), p -> p.tell(0, 400, Long.MIN_VALUE, 0),
            p -> p.tell(1, 5, -1, 0), p -> p.tell(2, 5, -1, 0), p -> p.tell(3, 5, -1, 0));
    }

    @Sentence(section = "Promise 13", words = "or not below count().")
    static void tellOfARankNotBelowCount(Check check) {
        PartitionPress press = Desk.laid();
        for (int l : new int[] {0, 1, 2, 3, 6}) {
            long many = press.count(l, 9);
            check.holds("the last of 9 by LAW " + l, press.tell(l, 9, many - 1, 2) > 0);
            Desk.refused(check, RANGE, p -> p.tell(l, 9, many, 2), p -> p.tell(l, 9, Long.MAX_VALUE, 2));
        }
        Desk.refused(check, RANGE, p -> p.tell(0, 0, 1, 0), p -> p.tell(0, 400, Desk.ALL_OF_400, 0), p -> p.tell(3, 13, 0, 0),
            p -> p.tell(7, 60, 966467, 0), p -> p.tell(0, 5, 1L << 32, 0));
    }

    @Sentence(section = "Promise 13", words = "(An ACT.)")
    static void tellIsAnAct(Check check) {
        PartitionPress press = Desk.with(7, 2);
        Desk.act(check, press, 0, 1, p -> p.tell(0, 400, 0, 0));
        Desk.act(check, press, 0, 0, p -> p.tell(0, 0, 0, 0));
        Desk.act(check, press, 7, 0, p -> p.tell(0, 0, 0, 7));
        Desk.noAct(check, press, 0, RANGE, p -> p.tell(0, 5, 7, 0));
    }
}
