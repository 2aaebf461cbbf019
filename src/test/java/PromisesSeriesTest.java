/** The sentences of the promises 23 to 30: one, factors, signs, counts, combine, series, same, told. */
public final class PromisesSeriesTest {
    private static final int NONE = PartitionPress.NONE;
    private static final int RANGE = PartitionPress.RANGE;
    private static final int FAR = Integer.MAX_VALUE;
    private static final int LEAST = Integer.MIN_VALUE;

    private PromisesSeriesTest() {
    }

    public static void main(String[] args) {
        Sentences.run(PromisesSeriesTest.class);
    }

    /** SERIES 0 of a new press is 1 at this place, else 0. */
    private static PartitionPress oneAt(int place) {
        PartitionPress press = new PartitionPress();
        press.one(0);
        press.combine(3, 0, place);
        return press;
    }

    /** All 401 places of a SERIES; the others than the one named are 0. */
    private static void onlyAt(Check check, PartitionPress press, int x, int at, long number) {
        for (int place = 0; place <= 400; place++) {
            check.due("place " + place, press.series(x, place), place == at ? number : 0);
        }
    }

    // ---- promise 23

    @Sentence(section = "Promise 23", words = "A SERIES is 1 at place 0, else 0: 1")
    static void oneIsOneAtPlaceNone(Check check) {
        PartitionPress press = new PartitionPress();
        press.counts(3, 0);
        check.due("one", press.one(3), 1);
        onlyAt(check, press, 3, 0, 1);
        check.due("and again", press.one(3), 1);
        check.due("place 0", press.series(3, 0), 1);
        check.due("the others stay", press.series(0, 0), 0);
        check.due("no ACT", press.told(8), 0);
    }

    @Sentence(section = "Promise 23", words = "else 0: 1; RANGE.")
    static void oneOfNoSuchSeries(Check check) {
        Desk.refused(check, RANGE, p -> p.one(-1), p -> p.one(4), p -> p.one(FAR), p -> p.one(LEAST));
    }

    // ---- promise 24

    @Sentence(section = "Promise 24", words = "III: 1")
    static void factorsAnswersOne(Check check) {
        PartitionPress press = oneAt(0);
        check.due("times", press.factors(0, 1, 0, 20), 1);
        check.due("over", press.factors(0, 1, 0, -20), 1);
        onlyAt(check, press, 0, 0, 1);
        check.due("to the 0-th", press.factors(0, 1, 0, 0), 1);
        check.due("place 0", press.series(0, 0), 1);
        check.due("no ACT", press.told(8), 0);
        PartitionPress last = oneAt(400);
        check.due("of the last place alone", last.factors(0, 1, 0, -20), 1);
        onlyAt(check, last, 0, 400, 1);
    }

    @Sentence(section = "Promise 24", words = "RANGE: no such SERIES")
    static void factorsOfNoSuchSeries(Check check) {
        Desk.refused(check, RANGE, p -> p.factors(-1, 1, 0, 1), p -> p.factors(4, 1, 0, 1), p -> p.factors(FAR, 1, 0, 1),
            p -> p.factors(LEAST, 1, 0, 1));
    }

    @Sentence(section = "Promise 24", words = "m 1 .. 400")
    static void factorsByNoSuchM(Check check) {
        PartitionPress press = oneAt(0);
        check.due("m 1", press.factors(0, 1, 0, 1), 1);
        check.due("m 1: place 1", press.series(0, 1), -1);
        press.one(0);
        check.due("m 400", press.factors(0, 400, 0, 1), 1);
        onlyAt(check, oneAt(400), 0, 400, 1);
        check.due("m 400: place 400", press.series(0, 400), -1);
        check.due("m 400: place 399", press.series(0, 399), 0);
        Desk.refused(check, RANGE, p -> p.factors(0, 0, 0, 1), p -> p.factors(0, 401, 0, 1), p -> p.factors(0, 401, 400, 1),
            p -> p.factors(0, -1, 0, 1), p -> p.factors(0, FAR, 0, 1), p -> p.factors(0, LEAST, 0, 1), p -> p.factors(0, 0, 0, 0));
    }

    @Sentence(section = "Promise 24", words = "r 0 .. m - 1")
    static void factorsOfNoSuchRest(Check check) {
        PartitionPress press = oneAt(0);
        check.due("r 0 by 5", press.factors(0, 5, 0, 1), 1);
        check.due("r 4 by 5", press.factors(0, 5, 4, 1), 1);
        check.due("r 399 by 400", press.factors(0, 400, 399, 1), 1);
        Desk.refused(check, RANGE, p -> p.factors(0, 5, 5, 1), p -> p.factors(0, 5, -1, 1), p -> p.factors(0, 1, 1, 1),
            p -> p.factors(0, 400, 400, 1), p -> p.factors(0, 5, FAR, 1), p -> p.factors(0, 5, LEAST, 1), p -> p.factors(0, 5, 5, 0));
    }

    @Sentence(section = "Promise 24", words = "e -20 .. 20.")
    static void factorsToNoSuchPower(Check check) {
        PartitionPress press = oneAt(0);
        check.due("e 20", press.factors(0, 400, 1, 20), 1);
        check.due("place 1", press.series(0, 1), -20);
        check.due("place 10", press.series(0, 10), 184756);
        check.due("place 20", press.series(0, 20), 1);
        check.due("place 21", press.series(0, 21), 0);
        press.one(0);
        check.due("e -20", press.factors(0, 400, 1, -20), 1);
        check.due("place 1", press.series(0, 1), 20);
        check.due("place 2", press.series(0, 2), 210);
        press.one(0);
        check.due("e 19", press.factors(0, 400, 1, 19), 1);
        check.due("place 1", press.series(0, 1), -19);
        Desk.refused(check, RANGE, p -> p.factors(0, 1, 0, 21), p -> p.factors(0, 1, 0, -21), p -> p.factors(0, 1, 0, FAR),
            p -> p.factors(0, 1, 0, LEAST));
    }

    // ---- promise 25

    @Sentence(section = "Promise 25", words = "III: 1")
    static void signsAnswersOne(Check check) {
        PartitionPress press = new PartitionPress();
        press.counts(3, 0);
        check.due("signs", press.signs(3, 2, 0), 1);
        check.due("place 0", press.series(3, 0), 1);
        check.due("place 1", press.series(3, 1), -2);
        check.due("place 2: nothing is left of what was there", press.series(3, 2), 0);
        check.due("place 400", press.series(3, 400), 2);
        check.due("the others stay", press.series(0, 0), 0);
        check.due("no ACT", press.told(8), 0);
    }

    @Sentence(section = "Promise 25", words = "RANGE: no such SERIES")
    static void signsOfNoSuchSeries(Check check) {
        Desk.refused(check, RANGE, p -> p.signs(-1, 3, 1), p -> p.signs(4, 3, 1), p -> p.signs(FAR, 3, 1), p -> p.signs(LEAST, 3, 1));
    }

    @Sentence(section = "Promise 25", words = "a is not 1 .. 100")
    static void signsOfNoSuchA(Check check) {
        PartitionPress press = new PartitionPress();
        check.due("a 100", press.signs(0, 100, 0), 1);
        check.due("place 50", press.series(0, 50), -2);
        check.due("a 2", press.signs(0, 2, 0), 1);
        // Of a 1, b 0 alone lies between, and 1 is odd: there is no such.
        Desk.refused(check, RANGE, p -> p.signs(0, 101, 1), p -> p.signs(0, 102, 0), p -> p.signs(0, 0, 0), p -> p.signs(0, -2, 0),
            p -> p.signs(0, FAR, 1), p -> p.signs(0, LEAST, 0), p -> p.signs(0, 1, 0), p -> p.signs(0, FAR, FAR), p -> p.signs(0, LEAST, LEAST));
    }

    @Sentence(section = "Promise 25", words = "b (x and y there) not as told.")
    static void signsOfNoSuchB(Check check) {
        PartitionPress press = new PartitionPress();
        check.due("100, 98", press.signs(0, 100, 98), 1);
        check.due("100, -98", press.signs(0, 100, -98), 1);
        check.due("3, 1", press.signs(0, 3, 1), 1);
        check.due("3, -1", press.signs(0, 3, -1), 1);
        Desk.refused(check, RANGE, p -> p.signs(0, 100, 100), p -> p.signs(0, 100, -100), p -> p.signs(0, 100, 99), p -> p.signs(0, 100, -99),
            p -> p.signs(0, 100, 1), p -> p.signs(0, 3, 3), p -> p.signs(0, 3, -3), p -> p.signs(0, 3, 0), p -> p.signs(0, 3, 2),
            p -> p.signs(0, 3, -2), p -> p.signs(0, 3, FAR), p -> p.signs(0, 2, LEAST));
    }

    // ---- promise 26

    @Sentence(section = "Promise 26", words = "A SERIES becomes the counts of a LAW (III): 1")
    static void countsAnswersOne(Check check) {
        PartitionPress press = Desk.laid();
        for (int l = 0; l < 8; l++) {
            check.due("LAW " + l, press.counts(3, l), 1);
            check.due("LAW " + l + ", place 0", press.series(3, 0), 1);
            check.due("LAW " + l + ", place 60", press.series(3, 60), press.count(l, 60));
            check.due("LAW " + l + ", place 400", press.series(3, 400), l == 3 || l == 7 ? 0 : press.count(l, 400));
        }
        check.due("the others stay", press.series(0, 5), 7);
        check.due("no ACT", press.told(8), Desk.laid().told(8));
    }

    @Sentence(section = "Promise 26", words = "(III): 1; RANGE.")
    static void countsOfNoSuch(Check check) {
        Desk.refused(check, RANGE, p -> p.counts(-1, 1), p -> p.counts(4, 1), p -> p.counts(0, -1), p -> p.counts(0, 8), p -> p.counts(FAR, 1),
            p -> p.counts(0, FAR), p -> p.counts(LEAST, 1), p -> p.counts(0, LEAST), p -> p.counts(4, 8));
    }

    // ---- promise 27

    @Sentence(section = "Promise 27", words = "SERIES x becomes x times y (kind 0)")
    static void combineTimes(Check check) {
        PartitionPress press = oneAt(200);
        check.due("place 200 times itself", press.combine(0, 0, 0), 1);
        onlyAt(check, press, 0, 400, 1);
        press.one(1);
        press.combine(3, 1, 1);
        check.due("place 400 times place 1", press.combine(0, 0, 1), 1);
        check.due("what is beyond 400 is lost", press.same(0, 2), NONE);
        check.due("y stays", press.series(1, 1), 1);
        PartitionPress whole = new PartitionPress();
        whole.counts(0, 0);
        whole.signs(1, 3, 1);
        whole.one(2);
        check.due("the counts times the signs", whole.combine(0, 0, 1), 1);
        check.due("is one", whole.same(0, 2), NONE);
        check.due("times 0s", whole.combine(0, 0, 3), 1);
        check.due("is 0s", whole.same(0, 3), NONE);
    }

    @Sentence(section = "Promise 27", words = "x and y (1)")
    static void combineAnd(Check check) {
        PartitionPress press = oneAt(400);
        press.one(1);
        check.due("and", press.combine(1, 0, 1), 1);
        check.due("place 0", press.series(0, 0), 1);
        check.due("place 400", press.series(0, 400), 1);
        check.due("and itself", press.combine(1, 0, 0), 1);
        check.due("place 400", press.series(0, 400), 2);
        check.due("y stays", press.series(1, 400), 0);
        for (int i = 0; i < 62; i++) {
            press.combine(1, 0, 0);
        }
        check.due("place 400 goes round", press.series(0, 400), Long.MIN_VALUE);
        press.combine(1, 0, 0);
        check.due("and is 0", press.series(0, 400), 0);
    }

    @Sentence(section = "Promise 27", words = "x less y (2)")
    static void combineLess(Check check) {
        PartitionPress press = oneAt(400);
        press.one(1);
        check.due("less", press.combine(2, 0, 1), 1);
        check.due("place 0", press.series(0, 0), -1);
        check.due("place 400", press.series(0, 400), 1);
        check.due("y stays", press.series(1, 0), 1);
        check.due("less itself", press.combine(2, 0, 0), 1);
        check.due("is 0s", press.same(0, 2), NONE);
        for (int i = 0; i < 63; i++) {
            press.combine(1, 1, 1);
        }
        check.due("the least of 64 bits", press.series(1, 0), Long.MIN_VALUE);
        press.combine(2, 2, 1);
        check.due("0 less the least goes round", press.series(2, 0), Long.MIN_VALUE);
        press.one(3);
        press.combine(2, 2, 3);
        check.due("the least less 1 goes round", press.series(2, 0), Long.MAX_VALUE);
    }

    @Sentence(section = "Promise 27", words = "x moved by y places up (3; y 0 .. 400)")
    static void combineMoved(Check check) {
        PartitionPress press = new PartitionPress();
        press.counts(0, 0);
        press.counts(1, 0);
        check.due("by 0", press.combine(3, 0, 0), 1);
        check.due("stays", press.same(0, 1), NONE);
        check.due("by 1", press.combine(3, 0, 1), 1);
        check.due("place 0", press.series(0, 0), 0);
        check.due("place 1", press.series(0, 1), 1);
        check.due("place 400", press.series(0, 400), 6324621482504294325L);
        check.due("y is no SERIES: by 5", press.combine(3, 0, 5), 1);
        check.due("place 6", press.series(0, 6), 1);
        check.due("by 400", press.combine(3, 1, 400), 1);
        onlyAt(check, press, 1, 400, 1);
        check.due("by 400 again", press.combine(3, 1, 400), 1);
        check.due("0s are left", press.same(1, 2), NONE);
        Desk.refused(check, RANGE, p -> p.combine(3, 0, -1), p -> p.combine(3, 0, 401), p -> p.combine(3, 0, FAR), p -> p.combine(3, 0, LEAST));
    }

    @Sentence(section = "Promise 27", words = "y 0 .. 400): 1; RANGE.")
    static void combineOfNoSuch(Check check) {
        for (int kind = 0; kind <= 2; kind++) {
            int by = kind;
            check.due("kind " + kind + " of 3 and 3", new PartitionPress().combine(kind, 3, 3), 1);
            Desk.refused(check, RANGE, p -> p.combine(by, -1, 0), p -> p.combine(by, 4, 0), p -> p.combine(by, 0, -1), p -> p.combine(by, 0, 4),
                p -> p.combine(by, FAR, 0), p -> p.combine(by, 0, LEAST));
        }
        Desk.refused(check, RANGE, p -> p.combine(-1, 0, 1), p -> p.combine(4, 0, 1), p -> p.combine(FAR, 0, 1), p -> p.combine(LEAST, 0, 1),
            p -> p.combine(3, -1, 0), p -> p.combine(3, 4, 0), p -> p.combine(3, FAR, 0), p -> p.combine(3, LEAST, 0));
    }

    // ---- promise 28

    @Sentence(section = "Promise 28", words = "The number of a SERIES at a place")
    static void seriesTellsTheNumber(Check check) {
        PartitionPress press = oneAt(400);
        press.counts(3, 0);
        check.due("SERIES 0, place 400", press.series(0, 400), 1);
        check.due("SERIES 0, place 0", press.series(0, 0), 0);
        check.due("SERIES 3, place 0", press.series(3, 0), 1);
        check.due("SERIES 3, place 400", press.series(3, 400), Desk.ALL_OF_400);
        press.signs(1, 3, 1);
        check.due("a number below 0 is no refusal", press.series(1, 1), -1);
    }

    @Sentence(section = "Promise 28", words = "Long.MIN_VALUE when there is none such.")
    static void seriesOfNoneSuch(Check check) {
        Desk.refused(check, Long.MIN_VALUE, p -> p.series(-1, 0), p -> p.series(4, 0), p -> p.series(0, -1), p -> p.series(0, 401),
            p -> p.series(FAR, 0), p -> p.series(LEAST, 0), p -> p.series(0, FAR), p -> p.series(0, LEAST), p -> p.series(4, 401));
    }

    // ---- promise 29

    @Sentence(section = "Promise 29", words = "The first place where two SERIES part")
    static void sameTellsTheFirstPlace(Check check) {
        for (int place : new int[] {0, 1, 399, 400}) {
            PartitionPress press = oneAt(place);
            check.due("place " + place, press.same(0, 3), place);
            check.due("place " + place + ", the other way", press.same(3, 0), place);
        }
        PartitionPress press = oneAt(400);
        press.one(1);
        press.combine(3, 1, 300);
        check.due("the first of two", press.same(0, 1), 300);
    }

    @Sentence(section = "Promise 29", words = "NONE: nowhere")
    static void sameNowhere(Check check) {
        PartitionPress press = new PartitionPress();
        check.due("0s", press.same(0, 3), NONE);
        press.counts(0, 0);
        press.counts(1, 0);
        check.due("alike", press.same(0, 1), NONE);
        check.due("with itself", press.same(0, 0), NONE);
        check.due("3 with itself", press.same(3, 3), NONE);
    }

    @Sentence(section = "Promise 29", words = "NONE: nowhere; RANGE.")
    static void sameOfNoSuch(Check check) {
        Desk.refused(check, RANGE, p -> p.same(-1, 0), p -> p.same(4, 0), p -> p.same(0, -1), p -> p.same(0, 4), p -> p.same(4, 4),
            p -> p.same(-1, -1), p -> p.same(FAR, 0), p -> p.same(0, FAR), p -> p.same(LEAST, 0), p -> p.same(0, LEAST));
    }

    // ---- promise 30

    @Sentence(section = "Promise 30", words = "What 0: the kind of LAW 0 .. 7 is what 0 .. 7")
    static void toldTellsTheKindsOfLaws(Check check) {
        PartitionPress press = Desk.laid();
        int[] kinds = {0, 1, 2, 3, 4, 5, 1, 3};
        for (int l = 0; l < 8; l++) {
            check.due("told(" + l + ")", press.told(l), kinds[l]);
        }
        press.law(7, 0, 0, 0, 0, 0);
        check.due("told(7), the LAW being ANY again", press.told(7), 0);
        press.law(0, 5, 2, 0, 0, 0);
        check.due("told(0)", press.told(0), 5);
    }

    @Sentence(section = "Promise 30", words = "8: ACTS that are noted.")
    static void toldTellsActs(Check check) {
        PartitionPress press = new PartitionPress();
        check.due("at first", press.told(8), 0);
        for (int i = 1; i <= 62; i++) {
            press.clear(0);
            check.due("after " + i, press.told(8), Math.min(i, 60));
        }
        press.undo();
        check.due("one is taken back", press.told(8), 59);
        press.clear(0);
        check.due("one more", press.told(8), 60);
        press.clear(8);
        press.next(0);
        press.peel(2, 0);
        check.due("refused ones, and those that change nothing, are not noted", press.told(8), 60);
    }

    @Sentence(section = "Promise 30", words = "NONE for others.")
    static void toldOfOthers(Check check) {
        Desk.refused(check, NONE, p -> p.told(-1), p -> p.told(9), p -> p.told(100), p -> p.told(FAR), p -> p.told(LEAST));
    }
}
