/** The sentences of the promises 1 to 8: a new object, part, clear, copy, sheet, hook, next, undo. */
public final class PromisesSheetsTest {
    private static final int NONE = PartitionPress.NONE;
    private static final int RANGE = PartitionPress.RANGE;
    private static final int FULL = PartitionPress.FULL;
    private static final int FAR = Integer.MAX_VALUE;

    private PromisesSheetsTest() {
    }

    public static void main(String[] args) {
        Sentences.run(PromisesSheetsTest.class);
    }

    // ---- promise 1

    @Sentence(section = "Promise 1", words = "Empty SHEETS")
    static void newSheetsAreEmpty(Check check) {
        PartitionPress press = new PartitionPress();
        for (int s = 0; s < 8; s++) {
            check.due("n of SHEET " + s, press.sheet(s, 0), 0);
            check.due("PARTS of SHEET " + s, press.sheet(s, 1), 0);
            check.due("PART 0 of SHEET " + s, press.sheet(s, 100), RANGE);
        }
        check.due("nothing is noted", press.told(8), 0);
        check.due("nothing can be undone", press.undo(), NONE);
    }

    @Sentence(section = "Promise 1", words = "all LAWS ANY")
    static void newLawsAreAny(Check check) {
        PartitionPress press = new PartitionPress();
        for (int l = 0; l < 8; l++) {
            check.due("the kind of LAW " + l, press.told(l), 0);
            check.due("LAW " + l + " of 10", press.count(l, 10), 42);
        }
    }

    @Sentence(section = "Promise 1", words = "SERIES of 0s.")
    static void newSeriesAreNones(Check check) {
        for (int x = 0; x < 4; x++) {
            PartitionPress press = new PartitionPress();
            for (int place = 0; place <= 400; place++) {
                check.due("series(" + x + ", " + place + ")", press.series(x, place), 0);
            }
        }
    }

    @Sentence(section = "Promise 1", words = "Empty SHEETS, all LAWS ANY, SERIES of 0s.")
    static void newObjectsKnowNothingOfOthers(Check check) {
        Desk.laid();
        PartitionPress press = new PartitionPress();
        check.due("SHEET 0", press.sheet(0, 0), 0);
        check.due("LAW 1", press.told(1), 0);
        check.due("SERIES 0", press.series(0, 0), 0);
        check.due("ACTS", press.told(8), 0);
    }

    // ---- promise 2

    @Sentence(section = "Promise 2", words = "PART v comes behind those of a SHEET: how many there are then")
    static void partTellsHowManyThereAre(Check check) {
        PartitionPress press = new PartitionPress();
        for (int i = 1; i <= 400; i++) {
            check.due("part(7, 1), time " + i, press.part(7, 1), i);
        }
        check.due("the last one", press.sheet(7, 499), 1);
        check.due("the first of another SHEET", press.part(6, 5), 1);
        check.due("the second", press.part(6, 3), 2);
        check.due("it comes behind", Sums.read(press, 6), 5, 3);
    }

    @Sentence(section = "Promise 2", words = "RANGE: no such SHEET")
    static void partOfNoSuchSheet(Check check) {
        check.due("SHEET 0", new PartitionPress().part(0, 1), 1);
        check.due("SHEET 7", new PartitionPress().part(7, 1), 1);
        Desk.refused(check, RANGE, p -> p.part(-1, 1), p -> p.part(8, 1), p -> p.part(FAR, 1), p -> p.part(Integer.MIN_VALUE, 1));
    }

    @Sentence(section = "Promise 2", words = "v below 1")
    static void partBelowOne(Check check) {
        check.due("1", new PartitionPress().part(2, 1), 1);
        Desk.refused(check, RANGE, p -> p.part(2, 0), p -> p.part(2, -1), p -> p.part(2, Integer.MIN_VALUE), p -> p.part(0, 0),
            p -> p.part(7, 0));
    }

    @Sentence(section = "Promise 2", words = "or above the last one")
    static void partAboveTheLastOne(Check check) {
        PartitionPress press = Desk.with(9, 5);
        check.due("6 behind 5", press.part(0, 6), RANGE);
        check.due("9 behind 5", press.part(0, 9), RANGE);
        check.due("5 behind 5", press.part(0, 5), 3);
        check.due("400 on an empty SHEET", press.part(1, 400), 1);
        Desk.refused(check, RANGE, p -> p.part(0, 2), p -> p.part(3, 2), p -> p.part(5, 16), p -> p.part(0, FAR));
    }

    @Sentence(section = "Promise 2", words = "FULL: n would be above 400.")
    static void partWithNoRoom(Check check) {
        PartitionPress press = Desk.with(200);
        check.due("200 and 200", press.part(0, 200), 2);
        check.due("400 and 1", press.part(0, 1), FULL);
        Desk.put(press, 1, 201);
        check.due("201 and 200", press.part(1, 200), FULL);
        check.due("201 and 199", press.part(1, 199), 2);
        check.due("400 alone", press.part(2, 400), 1);
        Desk.refused(check, FULL, p -> p.part(2, 401), p -> p.part(2, FAR), p -> p.part(1, 1), p -> p.part(1, 400), p -> p.part(7, 1));
    }

    @Sentence(section = "Promise 2", words = "above the last one; FULL: n would be above 400.")
    static void partRangeGoesBeforeFull(Check check) {
        Desk.refused(check, RANGE, p -> p.part(1, 401), p -> p.part(7, 2), p -> p.part(7, 400), p -> p.part(1, 0), p -> p.part(0, 396),
            p -> p.part(-1, 401), p -> p.part(8, FAR));
    }

    @Sentence(section = "Promise 2", words = "(An ACT.)")
    static void partIsAnAct(Check check) {
        PartitionPress press = new PartitionPress();
        Desk.act(check, press, 3, 1, p -> p.part(3, 400));
        Desk.put(press, 3, 4);
        Desk.act(check, press, 3, 2, p -> p.part(3, 4));
        Desk.noAct(check, press, 3, RANGE, p -> p.part(3, 5));
        Desk.noAct(check, press, 4, FULL, p -> p.part(4, 401));
    }

    // ---- promise 3

    @Sentence(section = "Promise 3", words = "A SHEET has the SUM of 0: what n was")
    static void clearTellsWhatNWas(Check check) {
        PartitionPress press = Desk.with(400);
        check.due("of 400", press.clear(0), 400);
        check.due("n then", press.sheet(0, 0), 0);
        check.due("PARTS then", press.sheet(0, 1), 0);
        check.due("of an empty one", press.clear(0), 0);
        check.due("a PART of any size can come then", press.part(0, 400), 1);
        Desk.putOnes(press, 400, 1);
        check.due("of 400 PARTS 1", press.clear(1), 400);
        check.due("the other SHEET stays", press.sheet(0, 0), 400);
    }

    @Sentence(section = "Promise 3", words = "what n was; RANGE.")
    static void clearOfNoSuchSheet(Check check) {
        Desk.refused(check, RANGE, p -> p.clear(-1), p -> p.clear(8), p -> p.clear(FAR), p -> p.clear(Integer.MIN_VALUE));
    }

    @Sentence(section = "Promise 3", words = "(An ACT.)")
    static void clearIsAnAct(Check check) {
        PartitionPress press = Desk.with(6, 6, 1);
        Desk.act(check, press, 0, 13, p -> p.clear(0));
        Desk.act(check, press, 5, 0, p -> p.clear(5));
        Desk.noAct(check, press, 0, RANGE, p -> p.clear(8));
    }

    // ---- promise 4

    @Sentence(section = "Promise 4", words = "SHEET to has the SUM of SHEET s: its n")
    static void copyTellsN(Check check) {
        PartitionPress press = Desk.with(6, 2, 1);
        Desk.put(press, 7, 9, 9, 9, 9);
        check.due("to a SHEET with more PARTS", press.copy(0, 7), 9);
        check.due("to", Sums.read(press, 7), 6, 2, 1);
        check.due("s stays", Sums.read(press, 0), 6, 2, 1);
        check.due("on itself", press.copy(0, 0), 9);
        check.due("on itself", Sums.read(press, 0), 6, 2, 1);
        check.due("of no PARTS", press.copy(3, 7), 0);
        check.due("of no PARTS", press.sheet(7, 1), 0);
        press.tell(0, 400, Desk.ALL_OF_400 - 1, 1);
        check.due("of 400 PARTS 1", press.copy(1, 7), 400);
        check.due("its last PART", press.sheet(7, 499), 1);
    }

    @Sentence(section = "Promise 4", words = "its n; RANGE.")
    static void copyOfNoSuchSheet(Check check) {
        Desk.refused(check, RANGE, p -> p.copy(-1, 0), p -> p.copy(8, 0), p -> p.copy(0, -1), p -> p.copy(0, 8), p -> p.copy(8, 8),
            p -> p.copy(-1, -1), p -> p.copy(FAR, 0), p -> p.copy(0, Integer.MIN_VALUE));
    }

    @Sentence(section = "Promise 4", words = "(An ACT.)")
    static void copyIsAnAct(Check check) {
        PartitionPress press = Desk.with(6, 2);
        Desk.put(press, 1, 3);
        Desk.act(check, press, 1, 8, p -> p.copy(0, 1));
        Desk.act(check, press, 0, 8, p -> p.copy(0, 0));
        Desk.noAct(check, press, 0, RANGE, p -> p.copy(0, 8));
    }

    // ---- promise 5

    /** What sheet() tells of a SUM. */
    private static int told(int what, int... sum) {
        return Desk.with(sum).sheet(0, what);
    }

    @Sentence(section = "Promise 5", words = "Of a SHEET, what 0: n")
    static void sheetTellsN(Check check) {
        check.due("of no PARTS", told(0), 0);
        check.due("of 1", told(0, 1), 1);
        check.due("of 400", told(0, 400), 400);
        check.due("of 399 1", told(0, 399, 1), 400);
    }

    @Sentence(section = "Promise 5", words = "1: how many PARTS")
    static void sheetTellsHowManyParts(Check check) {
        check.due("of no PARTS", told(1), 0);
        check.due("of 400", told(1, 400), 1);
        check.due("of 400 PARTS 1", told(1, Desk.ones(400)), 400);
    }

    @Sentence(section = "Promise 5", words = "2: the side of the greatest square of SQUARES that it has (rows and columns from the first on)")
    static void sheetTellsTheSide(Check check) {
        check.due("of no PARTS", told(2), 0);
        check.due("of 1", told(2, 1), 1);
        check.due("of 400", told(2, 400), 1);
        check.due("of 400 PARTS 1", told(2, Desk.ones(400)), 1);
        check.due("of 2 1", told(2, 2, 1), 1);
        check.due("of 2 2", told(2, 2, 2), 2);
        check.due("of 9 3 2", told(2, 9, 3, 2), 2);
        check.due("of 9 3 3", told(2, 9, 3, 3), 3);
        int[] most = new int[20];
        java.util.Arrays.fill(most, 20);
        check.due("of 20 PARTS 20", told(2, most), 20);
        most[19] = 19;
        check.due("of 19 PARTS 20, and 19", told(2, most), 19);
        PartitionPress press = Desk.with(3, 3, 3);
        press.undo();
        check.due("of 3 3, a third 3 being taken back", press.sheet(0, 2), 2);
    }

    @Sentence(section = "Promise 5", words = "3: its rank and 1000")
    static void sheetTellsTheRank(Check check) {
        check.due("of no PARTS", told(3), 1000);
        check.due("of 400, the greatest", told(3, 400), 1399);
        check.due("of 400 PARTS 1, the least", told(3, Desk.ones(400)), 601);
    }

    @Sentence(section = "Promise 5", words = "4: its crank and 1000")
    static void sheetTellsTheCrank(Check check) {
        check.due("of no PARTS", told(4), 1000);
        check.due("of 1", told(4, 1), 999);
        check.due("of 400, the greatest", told(4, 400), 1400);
        check.due("of 400 PARTS 1, the least", told(4, Desk.ones(400)), 600);
        check.due("of 2 2 1", told(4, 2, 2, 1), 1001);
    }

    @Sentence(section = "Promise 5", words = "5: unlike PARTS")
    static void sheetTellsUnlikeParts(Check check) {
        check.due("of no PARTS", told(5), 0);
        check.due("of 400 PARTS 1", told(5, Desk.ones(400)), 1);
        check.due("of 5 5 4 1 1", told(5, 5, 5, 4, 1, 1), 3);
        int[] most = new int[27];
        for (int i = 0; i < 27; i++) {
            most[i] = 27 - i;
        }
        check.due("of 27 to 1", told(5, most), 27);
    }

    @Sentence(section = "Promise 5", words = "6: odd PARTS")
    static void sheetTellsOddParts(Check check) {
        check.due("of no PARTS", told(6), 0);
        check.due("of 400", told(6, 400), 0);
        check.due("of 400 PARTS 1", told(6, Desk.ones(400)), 400);
        check.due("of 5 5 4 1", told(6, 5, 5, 4, 1), 3);
    }

    @Sentence(section = "Promise 5", words = "7: HOOKS of one SQUARE")
    static void sheetTellsHooksOfOneSquare(Check check) {
        check.due("of no PARTS", told(7), 0);
        check.due("of 1", told(7, 1), 1);
        check.due("of 400", told(7, 400), 1);
        check.due("of 400 PARTS 1", told(7, Desk.ones(400)), 1);
        check.due("of 5 5 4 1 1", told(7, 5, 5, 4, 1, 1), 3);
    }

    @Sentence(section = "Promise 5", words = "100 and on: its PARTS.")
    static void sheetTellsParts(Check check) {
        check.due("100", told(100, 8, 3), 8);
        check.due("101", told(101, 8, 3), 3);
        check.due("102", told(102, 8, 3), RANGE);
        check.due("100 of no PARTS", told(100), RANGE);
        check.due("499 of 400 PARTS 1", told(499, Desk.ones(400)), 1);
        check.due("500 of 400 PARTS 1", told(500, Desk.ones(400)), RANGE);
    }

    @Sentence(section = "Promise 5", words = "RANGE when there is none such.")
    static void sheetOfNoneSuch(Check check) {
        Desk.refused(check, RANGE, p -> p.sheet(-1, 0), p -> p.sheet(8, 0), p -> p.sheet(FAR, 0), p -> p.sheet(Integer.MIN_VALUE, 0),
            p -> p.sheet(0, -1), p -> p.sheet(0, 8), p -> p.sheet(0, 99), p -> p.sheet(0, 103), p -> p.sheet(0, FAR),
            p -> p.sheet(0, Integer.MIN_VALUE), p -> p.sheet(2, 100), p -> p.sheet(7, 500), p -> p.sheet(8, 100), p -> p.sheet(0, -100));
    }

    // ---- promise 6

    @Sentence(section = "Promise 6", words = "How many SQUARES the HOOK of row i, column j has")
    static void hookTellsSquares(Check check) {
        PartitionPress press = Desk.with(1);
        check.due("of 1", press.hook(0, 0, 0), 1);
        press.tell(0, 400, 0, 1);
        check.due("of 400, the first", press.hook(1, 0, 0), 400);
        check.due("of 400, the last", press.hook(1, 0, 399), 1);
        press.tell(0, 400, Desk.ALL_OF_400 - 1, 7);
        check.due("of 400 PARTS 1, the first", press.hook(7, 0, 0), 400);
        check.due("of 400 PARTS 1, the last", press.hook(7, 399, 0), 1);
        Desk.put(press, 2, 3, 3, 1);
        check.due("row 0, column 1", press.hook(2, 0, 1), 3);
        check.due("row 1, column 0", press.hook(2, 1, 0), 4);
    }

    @Sentence(section = "Promise 6", words = "RANGE: no such SHEET")
    static void hookOfNoSuchSheet(Check check) {
        Desk.refused(check, RANGE, p -> p.hook(-1, 0, 0), p -> p.hook(8, 0, 0), p -> p.hook(FAR, 0, 0), p -> p.hook(Integer.MIN_VALUE, 0, 0));
    }

    @Sentence(section = "Promise 6", words = "no such SHEET, SQUARE.")
    static void hookOfNoSuchSquare(Check check) {
        Desk.refused(check, RANGE, p -> p.hook(0, 0, 5), p -> p.hook(0, 1, 4), p -> p.hook(0, 2, 1), p -> p.hook(0, 3, 0),
            p -> p.hook(0, -1, 0), p -> p.hook(0, 0, -1), p -> p.hook(2, 0, 0), p -> p.hook(1, 0, 400), p -> p.hook(1, 1, 0),
            p -> p.hook(7, 400, 0), p -> p.hook(7, 0, 1), p -> p.hook(0, FAR, 0), p -> p.hook(0, 0, FAR), p -> p.hook(0, FAR, FAR),
            p -> p.hook(0, Integer.MIN_VALUE, 0), p -> p.hook(0, 0, Integer.MIN_VALUE), p -> p.hook(0, FAR, -1));
    }

    // ---- promise 7

    @Sentence(section = "Promise 7", words = "SHEET s has the next SUM by ORDER: 1")
    static void nextByOrder(Check check) {
        PartitionPress press = Desk.with(2);
        check.due("of 2", press.next(0), 1);
        check.due("1 1", Sums.read(press, 0), 1, 1);
        press.tell(0, 400, 0, 0);
        check.due("of 400", press.next(0), 1);
        check.due("399 1", Sums.read(press, 0), 399, 1);
        check.due("of 399 1", press.next(0), 1);
        check.due("398 2", Sums.read(press, 0), 398, 2);
        press.tell(0, 400, Desk.ALL_OF_400 - 2, 0);
        check.due("2 and 398 PARTS 1", press.sheet(0, 1), 399);
        check.due("of 2 and 398 PARTS 1", press.next(0), 1);
        check.due("400 PARTS 1", press.sheet(0, 1), 400);
        check.due("the last one", press.next(0), 0);
        Desk.put(press, 1, 5, 3, 1, 1, 1);
        check.due("of 5 3 1 1 1", press.next(1), 1);
        check.due("5 2 2 2", Sums.read(press, 1), 5, 2, 2, 2);
    }

    @Sentence(section = "Promise 7", words = "0 when it is the last one (it stays)")
    static void nextOfTheLastOne(Check check) {
        PartitionPress press = Desk.with(1);
        Desk.noAct(check, press, 0, 0, p -> p.next(0));
        Desk.noAct(check, press, 1, 0, p -> p.next(1));
        Desk.put(press, 2, 1, 1, 1);
        Desk.noAct(check, press, 2, 0, p -> p.next(2));
        Desk.refused(check, 0, p -> p.next(2), p -> p.next(7));
    }

    @Sentence(section = "Promise 7", words = "(it stays); RANGE.")
    static void nextOfNoSuchSheet(Check check) {
        Desk.refused(check, RANGE, p -> p.next(-1), p -> p.next(8), p -> p.next(FAR), p -> p.next(Integer.MIN_VALUE));
    }

    @Sentence(section = "Promise 7", words = "(An ACT, when 1.)")
    static void nextIsAnActWhenOne(Check check) {
        PartitionPress press = Desk.with(4, 1);
        Desk.act(check, press, 0, 1, p -> p.next(0));
        Desk.noAct(check, press, 3, 0, p -> p.next(3));
        Desk.noAct(check, press, 0, RANGE, p -> p.next(8));
    }

    // ---- promise 8

    @Sentence(section = "Promise 8", words = "The latest ACT that is noted is taken back")
    static void undoTakesTheLatestBack(Check check) {
        PartitionPress press = Desk.with(5, 4);
        Desk.put(press, 1, 3);
        press.copy(0, 1);
        press.clear(0);
        check.due("undo of clear", press.undo(), 4);
        check.due("SHEET 0", Sums.read(press, 0), 5, 4);
        check.due("SHEET 1", Sums.read(press, 1), 5, 4);
        check.due("undo of copy", press.undo(), 3);
        check.due("SHEET 0", Sums.read(press, 0), 5, 4);
        check.due("SHEET 1", Sums.read(press, 1), 3);
        check.due("an ACT behind an undo", press.part(0, 4), 3);
        check.due("undo of it", press.undo(), 3);
        check.due("SHEET 0", Sums.read(press, 0), 5, 4);
        check.due("undo of the PART ahead", press.undo(), 2);
        check.due("SHEET 1", press.sheet(1, 0), 0);
    }

    @Sentence(section = "Promise 8", words = "how many there are still")
    static void undoTellsHowManyThereAreStill(Check check) {
        PartitionPress press = new PartitionPress();
        for (int i = 0; i < 61; i++) {
            press.part(0, 1);
        }
        for (int still = 59; still >= 0; still--) {
            check.due("undo()", press.undo(), still);
            check.due("told(8)", press.told(8), still);
            check.due("n", press.sheet(0, 0), still + 1);
        }
        check.due("the first of 61 is not noted any more", press.undo(), NONE);
        check.due("n stays", press.sheet(0, 0), 1);
    }

    @Sentence(section = "Promise 8", words = "NONE without one.")
    static void undoWithoutOne(Check check) {
        PartitionPress press = new PartitionPress();
        check.due("at first", press.undo(), NONE);
        check.due("and again", press.undo(), NONE);
        check.due("told(8)", press.told(8), 0);
        press.part(3, 9);
        check.due("one", press.undo(), 0);
        check.due("no more", press.undo(), NONE);
        check.due("SHEET 3 stays", press.sheet(3, 0), 0);
        check.due("refused", press.part(8, 1), RANGE);
        check.due("a refused call is none", press.undo(), NONE);
        check.due("an ACT is noted as ever", press.part(3, 9), 1);
        check.due("and undone", press.undo(), 0);
    }
}
