/** The sentences of "Terms", I: SUMS, SHEETS, SQUARES, ORDER and LAWS; the constants; how long an object is used. */
public final class TermsSumsTest {
    private static final int NONE = PartitionPress.NONE;
    private static final int RANGE = PartitionPress.RANGE;
    private static final int FULL = PartitionPress.FULL;

    private TermsSumsTest() {
    }

    public static void main(String[] args) {
        Sentences.run(TermsSumsTest.class);
    }

    /** A call on a SHEET, or on a LAW, of this number. */
    private interface Numbered {
        long on(PartitionPress press, int number);
    }

    @Sentence(section = "What it is", words = "An object is used for at most 512 calls after it has been made")
    static void the512thCallIsAnsweredAsTheFirst(Check check) {
        PartitionPress press = new PartitionPress();
        for (int i = 0; i < 400; i++) {
            check.due("part(0, 1), call " + (i + 1), press.part(0, 1), i + 1);
        }
        for (int i = 0; i < 60; i++) {
            check.due("undo(), call " + (401 + i), press.undo(), 59 - i);
        }
        for (int i = 0; i < 50; i++) {
            check.due("part(0, 1), call " + (461 + i), press.part(0, 1), 341 + i);
        }
        check.due("undo(), call 511", press.undo(), 49);
        check.due("sheet(0, 0), call 512", press.sheet(0, 0), 389);
    }

    @Sentence(section = "Terms", words = "I. A SUM of n, 0 .. 400, is")
    static void aSumIsOfNoneTo400(Check check) {
        PartitionPress press = Desk.with(399);
        check.due("399 and 1", press.part(0, 1), 2);
        check.due("n", press.sheet(0, 0), 400);
        check.due("400 and 1", press.part(0, 1), FULL);
        check.due("n stays", press.sheet(0, 0), 400);
        check.due("of 400", press.tell(0, 400, 0, 1), 1);
        check.due("of 0", press.tell(0, 0, 0, 1), 0);
        check.due("of 401", press.tell(0, 401, 0, 1), RANGE);
        check.due("of -1", press.tell(0, -1, 0, 1), RANGE);
    }

    @Sentence(section = "Terms", words = "a row of PARTS, wholes from 1 on")
    static void partsAreFromOneOn(Check check) {
        PartitionPress press = Desk.with(1);
        check.due("1", Sums.read(press, 0), 1);
        check.due("0", press.part(0, 0), RANGE);
        check.due("-1", press.part(0, -1), RANGE);
        check.due("stays", Sums.read(press, 0), 1);
    }

    @Sentence(section = "Terms", words = "none above the one ahead of it, that")
    static void noPartIsAboveTheOneAhead(Check check) {
        PartitionPress press = Desk.with(7);
        check.due("8 behind 7", press.part(0, 8), RANGE);
        check.due("7 behind 7", press.part(0, 7), 2);
        check.due("6 behind 7", press.part(0, 6), 3);
        check.due("7 behind 6", press.part(0, 7), RANGE);
        check.due("the row", Sums.read(press, 0), 7, 7, 6);
    }

    @Sentence(section = "Terms", words = "make n together (of 0: no PARTS).")
    static void theSumOfNoneHasNoParts(Check check) {
        PartitionPress press = Desk.with(9, 4, 4);
        check.due("n", press.sheet(0, 0), 17);
        check.due("to the SUM of 0", press.tell(0, 0, 0, 0), 0);
        check.due("n", press.sheet(0, 0), 0);
        check.due("how many PARTS", press.sheet(0, 1), 0);
        check.due("PART 0", press.sheet(0, 100), RANGE);
        check.due("one SUM of 0", press.count(0, 0), 1);
    }

    private static final Numbered[] ON_SHEETS = {(p, s) -> p.part(s, 1), (p, s) -> p.clear(s), (p, s) -> p.copy(s, 0),
        (p, s) -> p.copy(0, s), (p, s) -> p.sheet(s, 0), (p, s) -> p.hook(s, 0, 0), (p, s) -> p.next(s), (p, s) -> p.clash(0, s),
        (p, s) -> p.rank(0, s), (p, s) -> p.tell(0, 5, 0, s), (p, s) -> p.lead(4, 0, s, 0), (p, s) -> p.lead(4, 0, 0, s),
        (p, s) -> p.back(4, 0, s, 0), (p, s) -> p.back(4, 0, 0, s), (p, s) -> p.core(2, s, 0), (p, s) -> p.core(2, 0, s),
        (p, s) -> p.quotient(2, 0, s, 0), (p, s) -> p.quotient(2, 0, 0, s), (p, s) -> p.join(2, s, 3), (p, s) -> p.peel(2, s),
        (p, s) -> p.fillings(s), (p, s) -> p.filling(s, 0, 1)};

    @Sentence(section = "Terms", words = "SHEETS 0 .. 7 each have a SUM")
    static void thereAreSheets0To7(Check check) {
        for (int i = 0; i < ON_SHEETS.length; i++) {
            for (int s : new int[] {0, 7}) {
                PartitionPress press = new PartitionPress();
                for (int each = 0; each < 8; each++) {
                    Desk.put(press, each, 2, 1);
                }
                check.holds("call " + i + " on SHEET " + s, ON_SHEETS[i].on(press, s) != RANGE);
            }
        }
    }

    @Sentence(section = "Terms", words = "SHEETS 0 .. 7")
    static void noOtherSheets(Check check) {
        for (int s : Desk.NO_SHEETS) {
            Desk.Call[] calls = new Desk.Call[ON_SHEETS.length];
            for (int i = 0; i < calls.length; i++) {
                Numbered call = ON_SHEETS[i];
                calls[i] = press -> call.on(press, s);
            }
            Desk.refused(check, RANGE, calls);
        }
    }

    @Sentence(section = "Terms", words = "(at first that of 0)")
    static void atFirstSheetsHaveTheSumOfNone(Check check) {
        PartitionPress press = new PartitionPress();
        for (int s = 0; s < 8; s++) {
            check.due("n of SHEET " + s, press.sheet(s, 0), 0);
            check.due("PARTS of SHEET " + s, press.sheet(s, 1), 0);
        }
    }

    @Sentence(section = "Terms", words = "Its SQUARES: row i (from 0 on) has as many as PART i")
    static void rowsHaveAsManySquaresAsParts(Check check) {
        PartitionPress press = Desk.with(3, 1);
        check.due("last of row 0", press.hook(0, 0, 2), 1);
        check.due("right of row 0", press.hook(0, 0, 3), RANGE);
        check.due("row 1", press.hook(0, 1, 0), 1);
        check.due("right of row 1", press.hook(0, 1, 1), RANGE);
        check.due("row 2", press.hook(0, 2, 0), RANGE);
        check.due("row -1", press.hook(0, -1, 0), RANGE);
        check.due("no PARTS, no SQUARES", press.hook(1, 0, 0), RANGE);
    }

    @Sentence(section = "Terms", words = "TURNED: its columns are rows.")
    static void turnedColumnsAreRows(Check check) {
        PartitionPress press = Desk.with(4, 2, 1);
        check.due("4 2 1", press.lead(4, 0, 0, 1), 4);
        check.due("4 2 1 TURNED", Sums.read(press, 1), 3, 2, 1, 1);
        check.due("of no PARTS", press.lead(4, 0, 2, 1), 0);
        check.due("of no PARTS", press.sheet(1, 0), 0);
        press.tell(0, 400, 0, 0);
        check.due("one row of 400", press.lead(4, 0, 0, 1), 400);
        check.due("its first row", press.sheet(1, 100), 1);
        check.due("its last row", press.sheet(1, 499), 1);
        check.due("one column of 400", press.lead(4, 0, 1, 1), 1);
        check.due("its row", Sums.read(press, 1), 400);
    }

    @Sentence(section = "Terms", words = "The HOOK of a SQUARE: it, those to the right of it in its row, and below it in its column.")
    static void aHookIsRightAndBelow(Check check) {
        PartitionPress press = Desk.with(4, 2, 1);
        int[][] hooks = {{6, 4, 2, 1}, {3, 1}, {1}};
        for (int i = 0; i < hooks.length; i++) {
            for (int j = 0; j < hooks[i].length; j++) {
                check.due("hook(0, " + i + ", " + j + ")", press.hook(0, i, j), hooks[i][j]);
            }
        }
        press.tell(0, 400, 0, 0);
        check.due("a row of 400, first", press.hook(0, 0, 0), 400);
        check.due("a row of 400, last", press.hook(0, 0, 399), 1);
        press.lead(4, 0, 0, 0);
        check.due("a column of 400, first", press.hook(0, 0, 0), 400);
        check.due("a column of 400, last", press.hook(0, 399, 0), 1);
    }

    @Sentence(section = "Terms", words = "ORDER of SUMS of one n: first the one that has the greater PART where they part first.")
    static void firstIsTheGreaterPart(Check check) {
        int[][] order = {{5}, {4, 1}, {3, 2}, {3, 1, 1}, {2, 2, 1}, {2, 1, 1, 1}, {1, 1, 1, 1, 1}};
        PartitionPress press = new PartitionPress();
        for (int i = 0; i < order.length; i++) {
            press.tell(0, 5, i, 0);
            check.due("SUM " + i + " of 5", Sums.read(press, 0), order[i]);
            check.due("rank", press.rank(0, 0), i);
        }
        PartitionPress more = Desk.with(4, 4);
        Desk.put(more, 1, 5, 1, 1, 1);
        check.holds("5 1 1 1 is ahead of 4 4", more.rank(0, 1) < more.rank(0, 0));
    }

    private static final Numbered[] ON_LAWS = {(p, l) -> p.law(l, 0, 0, 0, 0, 0), (p, l) -> p.clash(l, 2), (p, l) -> p.count(l, 0),
        (p, l) -> p.rank(l, 2), (p, l) -> p.tell(l, 0, 0, 2), (p, l) -> p.counts(0, l)};

    @Sentence(section = "Terms", words = "LAWS 0 .. 7 (ANY at first)")
    static void thereAreLaws0To7(Check check) {
        PartitionPress press = new PartitionPress();
        for (int l = 0; l < 8; l++) {
            check.due("the kind of LAW " + l, press.told(l), 0);
            check.due("by LAW " + l, press.count(l, 400), Desk.ALL_OF_400);
            for (int i = 0; i < ON_LAWS.length; i++) {
                check.holds("call " + i + " on LAW " + l, ON_LAWS[i].on(press, l) != RANGE);
            }
        }
    }

    @Sentence(section = "Terms", words = "LAWS 0 .. 7")
    static void noOtherLaws(Check check) {
        for (int l : Desk.NO_LAWS) {
            Desk.Call[] calls = new Desk.Call[ON_LAWS.length];
            for (int i = 0; i < calls.length; i++) {
                Numbered call = ON_LAWS[i];
                calls[i] = press -> call.on(press, l);
            }
            Desk.refused(check, RANGE, calls);
        }
    }

    @Sentence(section = "Terms", words = ": 0 ANY.")
    static void anyAllowsAll(Check check) {
        PartitionPress press = new PartitionPress();
        check.due("of no PARTS", press.clash(0, 0), NONE);
        press.tell(0, 400, 0, 0);
        check.due("400", press.clash(0, 0), NONE);
        press.lead(4, 0, 0, 0);
        check.due("400 PARTS 1", press.clash(0, 0), NONE);
        check.due("SUMS of 0", press.count(0, 0), 1);
        check.due("SUMS of 1", press.count(0, 1), 1);
        check.due("SUMS of 2", press.count(0, 2), 2);
    }

    @Sentence(section = "Terms", words = "1 PARTS: only PARTS whose rest by m (1 .. 12) has its bit in a set")
    static void partsHaveTheirRestInTheSet(Check check) {
        PartitionPress press = new PartitionPress();
        check.due("m 12, rest 0", press.law(0, 1, 12, 1, 0, 0), 0);
        check.due("12 and 12, 24", press.count(0, 24), 2);
        check.due("no SUM of 11", press.count(0, 11), 0);
        check.due("m 12, rest 11", press.law(0, 1, 12, 2048, 0, 0), 1);
        check.due("11", press.count(0, 11), 1);
        check.due("11 and 11", press.count(0, 22), 1);
        check.due("no SUM of 12", press.count(0, 12), 0);
        check.due("m 1, rest 0", press.law(0, 1, 1, 1, 0, 0), 1);
        check.due("all of 5", press.count(0, 5), 7);
        check.due("m 1, no rest", press.law(0, 1, 1, 0, 0, 0), 1);
        check.due("none of 5", press.count(0, 5), 0);
        check.due("one of 0", press.count(0, 0), 1);
        check.due("m 0", press.law(0, 1, 0, 1, 0, 0), RANGE);
        check.due("m 13", press.law(0, 1, 13, 1, 0, 0), RANGE);
    }

    @Sentence(section = "Terms", words = "(other bits mean nothing)")
    static void otherBitsMeanNothing(Check check) {
        PartitionPress press = Desk.with(7, 5, 3);
        press.law(0, 1, 1, 4094, 0, 0);
        check.due("m 1, all bits but that of 0", press.count(0, 5), 0);
        check.due("none is allowed", press.clash(0, 0), 0);
        press.law(0, 1, 3, 4088 + 2, 0, 0);
        press.law(1, 1, 3, 2, 0, 0);
        for (int n : new int[] {0, 1, 2, 3, 7, 400}) {
            check.due("m 3, rest 1 and other bits, of " + n, press.count(0, n), press.count(1, n));
        }
        check.due("7 is allowed, 5 is not", press.clash(0, 0), 1);
    }

    @Sentence(section = "Terms", words = "each at most c times (0: any times).")
    static void eachAtMostCTimes(Check check) {
        PartitionPress press = new PartitionPress();
        press.tell(0, 400, Desk.ALL_OF_400 - 1, 0);
        press.law(1, 1, 1, 1, 0, 0);
        check.due("c 0: 400 times", press.clash(1, 0), NONE);
        check.due("c 0: all of 400", press.count(1, 400), Desk.ALL_OF_400);
        press.law(1, 1, 1, 1, 400, 0);
        check.due("c 400: 400 times", press.clash(1, 0), NONE);
        check.due("c 400: all of 400", press.count(1, 400), Desk.ALL_OF_400);
        press.law(1, 1, 1, 1, 399, 0);
        check.due("c 399: 400 times", press.clash(1, 0), 399);
        check.due("c 399: all of 400 but one", press.count(1, 400), Desk.ALL_OF_400 - 1);
        press.law(1, 1, 1, 1, 1, 0);
        check.due("c 1: 5, 4 1, 3 2", press.count(1, 5), 3);
        press.law(1, 1, 1, 1, 2, 0);
        check.due("c 2: 3, 2 1", press.count(1, 3), 2);
        check.due("c 2: 4, 3 1, 2 2, 2 1 1", press.count(1, 4), 4);
    }

    @Sentence(section = "Terms", words = "2 GAPS: a PART and the next one differ by d at least (0 .. 20)")
    static void partsDifferByDAtLeast(Check check) {
        PartitionPress press = Desk.with(21, 1);
        Desk.put(press, 1, 20, 1);
        Desk.put(press, 2, 5, 5);
        press.law(0, 2, 20, 1, 0, 1);
        check.due("d 20: 21 1", press.clash(0, 0), NONE);
        check.due("d 20: 20 1", press.clash(0, 1), 1);
        check.due("d 20: 22, 21 1", press.count(0, 22), 2);
        for (int n = 0; n <= 21; n++) {
            check.due("d 20: one PART at most, of " + n, press.count(0, n), 1);
        }
        press.law(0, 2, 0, 1, 0, 1);
        check.due("d 0: 5 5", press.clash(0, 2), NONE);
        check.due("d 0: all of 10", press.count(0, 10), 42);
        press.law(0, 2, 1, 1, 0, 1);
        check.due("d 1: 5 5", press.clash(0, 2), 1);
        check.due("d -1", press.law(0, 2, -1, 1, 0, 1), RANGE);
        check.due("d 21", press.law(0, 2, 21, 1, 0, 1), RANGE);
    }

    @Sentence(section = "Terms", words = "by d + e if the first of both is a multiple of m (1 .. 12; e 0 .. 5)")
    static void behindAMultipleByDAndE(Check check) {
        PartitionPress press = Desk.with(12, 5);
        Desk.put(press, 1, 12, 6);
        Desk.put(press, 2, 14, 12);
        Desk.put(press, 3, 13, 11);
        press.law(0, 2, 2, 12, 5, 1);
        check.due("12 5", press.clash(0, 0), NONE);
        check.due("12 6", press.clash(0, 1), 1);
        check.due("the multiple is the second of both", press.clash(0, 2), NONE);
        check.due("no multiple", press.clash(0, 3), NONE);
        press.law(0, 2, 2, 12, 0, 1);
        check.due("e 0: 12 6", press.clash(0, 1), NONE);
        press.law(0, 2, 10, 12, 5, 1);
        check.due("14, 13 1, but not 12 2", press.count(0, 14), 2);
        check.due("17, 16 1, 15 2, 14 3, but not 12 5 and 13 4", press.count(0, 17), 4);
        press.law(0, 2, 10, 12, 0, 1);
        check.due("14, 13 1, 12 2", press.count(0, 14), 3);
        press.law(0, 2, 2, 1, 5, 1);
        check.due("m 1: each PART is a multiple", press.clash(0, 3), 1);
        check.due("m 0", press.law(0, 2, 2, 0, 5, 1), RANGE);
        check.due("m 13", press.law(0, 2, 2, 13, 5, 1), RANGE);
        check.due("e -1", press.law(0, 2, 2, 1, -1, 1), RANGE);
        check.due("e 6", press.law(0, 2, 2, 1, 6, 1), RANGE);
    }

    @Sentence(section = "Terms", words = "the last one is a at least (1 .. 20).")
    static void theLastOneIsAAtLeast(Check check) {
        PartitionPress press = Desk.with(40, 20);
        Desk.put(press, 1, 40, 19);
        press.law(0, 2, 0, 1, 0, 20);
        check.due("a 20: 40 20", press.clash(0, 0), NONE);
        check.due("a 20: 40 19", press.clash(0, 1), 1);
        check.due("a 20: of no PARTS", press.clash(0, 2), NONE);
        check.due("a 20: of 0", press.count(0, 0), 1);
        check.due("a 20: of 19", press.count(0, 19), 0);
        check.due("a 20: of 20", press.count(0, 20), 1);
        press.law(0, 2, 0, 1, 0, 1);
        check.due("a 1: of 1", press.count(0, 1), 1);
        check.due("a 0", press.law(0, 2, 0, 1, 0, 0), RANGE);
        check.due("a 21", press.law(0, 2, 0, 1, 0, 21), RANGE);
    }

    @Sentence(section = "Terms", words = "3 FEW: at most p PARTS (0 .. 60)")
    static void atMostPParts(Check check) {
        PartitionPress press = new PartitionPress();
        press.law(0, 3, 0, 60, 0, 0);
        check.due("p 0: of 0", press.count(0, 0), 1);
        check.due("p 0: of 1", press.count(0, 1), 0);
        press.law(0, 3, 1, 60, 0, 0);
        check.due("p 1: of 60", press.count(0, 60), 1);
        press.law(0, 3, 59, 60, 0, 0);
        check.due("p 59: all of 60 but one", press.count(0, 60), 966466);
        press.law(0, 3, 60, 60, 0, 0);
        check.due("p 60: all of 60", press.count(0, 60), 966467);
        check.due("p -1", press.law(0, 3, -1, 60, 0, 0), RANGE);
        check.due("p 61", press.law(0, 3, 61, 60, 0, 0), RANGE);
    }

    @Sentence(section = "Terms", words = "none above q (0 .. 60)")
    static void noneAboveQ(Check check) {
        PartitionPress press = new PartitionPress();
        press.law(0, 3, 60, 0, 0, 0);
        check.due("q 0: of 0", press.count(0, 0), 1);
        check.due("q 0: of 1", press.count(0, 1), 0);
        press.law(0, 3, 60, 1, 0, 0);
        check.due("q 1: of 60", press.count(0, 60), 1);
        press.law(0, 3, 60, 59, 0, 0);
        check.due("q 59: all of 60 but one", press.count(0, 60), 966466);
        check.due("q -1", press.law(0, 3, 60, -1, 0, 0), RANGE);
        check.due("q 61", press.law(0, 3, 60, 61, 0, 0), RANGE);
    }

    @Sentence(section = "Terms", words = "of n up to 60 alone.")
    static void fewIsOfNUpTo60Alone(Check check) {
        PartitionPress press = Desk.with(30, 30);
        Desk.put(press, 1, 31, 30);
        press.law(0, 3, 60, 60, 0, 0);
        check.due("count of 60", press.count(0, 60), 966467);
        check.due("count of 61", press.count(0, 61), RANGE);
        check.holds("rank of 60", press.rank(0, 0) > 0);
        check.due("rank of 61", press.rank(0, 1), RANGE);
        check.due("tell of 60", press.tell(0, 60, 0, 2), 1);
        check.due("tell of 61", press.tell(0, 61, 0, 2), RANGE);
    }

    @Sentence(section = "Terms", words = "4 OWN: TURNED it is the same.")
    static void ownIsTheSameTurned(Check check) {
        PartitionPress press = new PartitionPress();
        press.law(0, 4, 0, 0, 0, 0);
        check.due("of no PARTS", press.clash(0, 0), NONE);
        for (int i = 0; i < 20; i++) {
            press.part(0, 20);
        }
        check.due("20 PARTS 20", press.clash(0, 0), NONE);
        Desk.put(press, 1, 2);
        check.due("2", press.clash(0, 1), 0);
        Desk.put(press, 2, 1, 1);
        check.due("1 1", press.clash(0, 2), 0);
        int[] counts = {1, 1, 0, 1, 1, 1, 1, 1, 2};
        for (int n = 0; n < counts.length; n++) {
            check.due("OWN ones of " + n, press.count(0, n), counts[n]);
        }
    }

    @Sentence(section = "Terms", words = "5 CORES: no HOOK has t SQUARES (2 .. 12).")
    static void coresHaveNoHookOfT(Check check) {
        PartitionPress press = Desk.with(11);
        Desk.put(press, 1, 12);
        Desk.put(press, 2, 2, 1);
        Desk.put(press, 3, 2);
        press.law(0, 5, 12, 0, 0, 0);
        check.due("t 12: 11", press.clash(0, 0), NONE);
        check.due("t 12: 12", press.clash(0, 1), 0);
        check.due("t 12: all of 11", press.count(0, 11), 56);
        check.due("t 12: those of 12 without one HOOK of 12", press.count(0, 12), 77 - 12);
        press.law(0, 5, 2, 0, 0, 0);
        check.due("t 2: 2 1", press.clash(0, 2), NONE);
        check.due("t 2: 2", press.clash(0, 3), 0);
        check.due("t 2: of no PARTS", press.clash(0, 4), NONE);
        check.due("t 2: of 0", press.count(0, 0), 1);
        check.due("t 2: of 2", press.count(0, 2), 0);
        check.due("t 1", press.law(0, 5, 1, 0, 0, 0), RANGE);
        check.due("t 13", press.law(0, 5, 13, 0, 0, 0), RANGE);
    }

    @Sentence(section = "Terms", words = "Answers are exact: 64 bits hold them (there are 6727090051741041926 SUMS of 400).")
    static void answersAreExact(Check check) {
        PartitionPress press = new PartitionPress();
        check.due("SUMS of 400", press.count(0, 400), 6727090051741041926L);
        check.due("the last one", press.tell(0, 400, 6727090051741041925L, 0), 400);
        check.due("its rank", press.rank(0, 0), 6727090051741041925L);
        check.due("the one ahead", press.tell(0, 400, 6727090051741041924L, 0), 399);
        check.due("its rank", press.rank(0, 0), 6727090051741041924L);
        check.due("none behind", press.tell(0, 400, 6727090051741041926L, 0), RANGE);
        press.law(1, 1, 1, 1, 400, 0);
        check.due("by PARTS", press.count(1, 400), 6727090051741041926L);
        press.law(1, 2, 0, 1, 0, 1);
        check.due("by GAPS", press.count(1, 400), 6727090051741041926L);
        press.counts(0, 0);
        check.due("in a SERIES", press.series(0, 400), 6727090051741041926L);
    }

    @Sentence(section = "Terms", words = "The constants: `NONE = -1`: There is none.")
    static void noneIsThereIsNone(Check check) {
        check.due("NONE", PartitionPress.NONE, -1);
        check.due("nothing to take back", new PartitionPress().undo(), -1);
    }

    @Sentence(section = "Terms", words = "`RANGE = -2`: A number that can't be.")
    static void rangeIsANumberThatCannotBe(Check check) {
        check.due("RANGE", PartitionPress.RANGE, -2);
        check.due("no SHEET 8", new PartitionPress().clear(8), -2);
    }

    @Sentence(section = "Terms", words = "`KIND = -3`: A SUM of another kind.")
    static void kindIsASumOfAnotherKind(Check check) {
        check.due("KIND", PartitionPress.KIND, -3);
        check.due("2 is not odd", Desk.with(2).lead(3, 0, 0, 0), -3);
    }

    @Sentence(section = "Terms", words = "`FULL = -4`: No room.")
    static void fullIsNoRoom(Check check) {
        check.due("FULL", PartitionPress.FULL, -4);
        check.due("401", new PartitionPress().part(0, 401), -4);
    }
}
