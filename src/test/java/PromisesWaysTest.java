/** The sentences of the promises 14 to 22: lead, back, core, quotient, join, peel, fillings, filling, heap. */
public final class PromisesWaysTest {
    private static final int RANGE = PartitionPress.RANGE;
    private static final int KIND = PartitionPress.KIND;
    private static final int FULL = PartitionPress.FULL;
    private static final int FAR = Integer.MAX_VALUE;
    private static final int LEAST = Integer.MIN_VALUE;

    private PromisesWaysTest() {
    }

    public static void main(String[] args) {
        Sentences.run(PromisesWaysTest.class);
    }

    // ---- promise 14

    @Sentence(section = "Promise 14", words = "SHEET to has what a LEAD (kind 1 .. 5, x) makes of SHEET s: how many PARTS")
    static void leadTellsHowManyParts(Check check) {
        PartitionPress press = Desk.laid();
        check.due("kind 1", press.lead(1, 2, 0, 6), 6);
        check.due("5 1 1 1 1 1", Sums.read(press, 6), 5, 1, 1, 1, 1, 1);
        check.due("s stays", Sums.read(press, 0), 5, 4, 1);
        check.due("kind 4, to a SHEET that had 400", press.lead(4, 0, 0, 1), 5);
        check.due("kind 5, on itself", press.lead(5, 0, 0, 0), 2);
        check.due("6 4", Sums.read(press, 0), 6, 4);
        check.due("kind 3, 400 PARTS 1", press.lead(3, 0, 7, 0), 1);
        check.due("400", Sums.read(press, 0), 400);
        Desk.put(press, 2, 5, 1);
        check.due("kind 2", press.lead(2, 0, 2, 0), 3);
        check.due("3 2 1", Sums.read(press, 0), 3, 2, 1);
        check.due("kind 4, on itself, 400 PARTS 1", press.lead(4, 0, 7, 7), 1);
        check.due("400", Sums.read(press, 7), 400);
        press.clear(2);
        for (int kind = 1; kind <= 5; kind++) {
            check.due("kind " + kind + ", of no PARTS", press.lead(kind, kind == 1 ? 12 : 0, 2, 0), 0);
            check.due("n", press.sheet(0, 0), 0);
        }
    }

    @Sentence(section = "Promise 14", words = "RANGE: no such")
    static void leadOfNoSuch(Check check) {
        Desk.refused(check, RANGE, p -> p.lead(0, 0, 0, 2), p -> p.lead(6, 0, 0, 2), p -> p.lead(-1, 0, 0, 2), p -> p.lead(FAR, 0, 0, 2),
            p -> p.lead(LEAST, 0, 0, 2), p -> p.lead(1, 1, 0, 2), p -> p.lead(1, 13, 0, 2), p -> p.lead(1, 0, 0, 2), p -> p.lead(1, FAR, 0, 2),
            p -> p.lead(1, LEAST, 0, 2), p -> p.lead(2, 1, 2, 0), p -> p.lead(3, 1, 2, 0), p -> p.lead(4, 1, 0, 2), p -> p.lead(5, 1, 0, 2),
            p -> p.lead(4, -1, 0, 2), p -> p.lead(4, 2, 0, 2), p -> p.lead(4, 0, -1, 0), p -> p.lead(4, 0, 8, 0), p -> p.lead(4, 0, 0, -1),
            p -> p.lead(4, 0, 0, 8), p -> p.lead(4, 0, FAR, 0), p -> p.lead(4, 0, 0, LEAST));
    }

    @Sentence(section = "Promise 14", words = "KIND: the SUM isn't of the kind from which it leads.")
    static void leadOfAnotherKind(Check check) {
        Desk.refused(check, KIND, p -> p.lead(1, 2, 4, 2), p -> p.lead(1, 12, 7, 2), p -> p.lead(2, 0, 0, 2), p -> p.lead(2, 0, 7, 2),
            p -> p.lead(2, 0, 1, 2), p -> p.lead(3, 0, 0, 2), p -> p.lead(3, 0, 1, 2), p -> p.lead(3, 0, 4, 2), p -> p.lead(5, 0, 4, 2),
            p -> p.lead(5, 0, 7, 2), p -> p.lead(5, 0, 7, 7));
    }

    @Sentence(section = "Promise 14", words = "RANGE: no such; KIND: the SUM isn't of the kind")
    static void leadRangeGoesBeforeKind(Check check) {
        Desk.refused(check, RANGE, p -> p.lead(2, 0, 0, 8), p -> p.lead(2, 1, 0, 2), p -> p.lead(3, 0, 0, -1), p -> p.lead(5, 0, 7, 8),
            p -> p.lead(1, 13, 7, 2), p -> p.lead(1, 1, 7, 2), p -> p.lead(1, 2, 4, 8), p -> p.lead(6, 0, 7, 2));
    }

    @Sentence(section = "Promise 14", words = "(An ACT;")
    static void leadIsAnAct(Check check) {
        PartitionPress press = Desk.with(5, 3);
        Desk.put(press, 1, 4);
        Desk.act(check, press, 1, 2, p -> p.lead(1, 2, 0, 1));
        Desk.act(check, press, 1, 3, p -> p.lead(2, 0, 0, 1));
        Desk.act(check, press, 1, 3, p -> p.lead(3, 0, 0, 1));
        Desk.act(check, press, 0, 5, p -> p.lead(4, 0, 0, 0));
        Desk.act(check, press, 1, 3, p -> p.lead(5, 0, 0, 1));
        Desk.act(check, press, 1, 0, p -> p.lead(4, 0, 7, 1));
        Desk.noAct(check, press, 1, KIND, p -> p.lead(3, 0, 1, 1));
        Desk.noAct(check, press, 1, RANGE, p -> p.lead(6, 0, 0, 1));
    }

    @Sentence(section = "Promise 14", words = "of a SUM that STAYS, by kind 5, too.)")
    static void leadOfASumThatStaysIsAnAct(Check check) {
        PartitionPress press = Desk.with(3, 2);
        Desk.put(press, 1, 2);
        Desk.act(check, press, 0, 2, p -> p.lead(5, 0, 0, 0));
        Desk.act(check, press, 1, 1, p -> p.lead(5, 0, 1, 1));
        Desk.act(check, press, 2, 0, p -> p.lead(5, 0, 2, 2));
        Desk.act(check, press, 3, 2, p -> p.lead(5, 0, 0, 3));
        press.lead(5, 0, 0, 0);
        check.due("it stays", Sums.read(press, 0), 3, 2);
    }

    // ---- promise 15

    @Sentence(section = "Promise 15", words = "Likewise back.")
    static void backTellsHowManyParts(Check check) {
        PartitionPress press = Desk.laid();
        check.due("kind 1, 400 PARTS 1", press.back(1, 2, 7, 6), 3);
        check.due("256 128 16", Sums.read(press, 6), 256, 128, 16);
        check.due("s stays", press.sheet(7, 1), 400);
        check.due("kind 2", press.back(2, 0, 3, 6), 2);
        check.due("5 1", Sums.read(press, 6), 5, 1);
        check.due("kind 3, 400", press.back(3, 0, 1, 6), 400);
        check.due("its last PART", press.sheet(6, 499), 1);
        check.due("kind 4, on itself", press.back(4, 0, 1, 1), 400);
        check.due("kind 5", press.back(5, 0, 0, 0), 2);
        check.due("6 4", Sums.read(press, 0), 6, 4);
        for (int kind = 1; kind <= 5; kind++) {
            check.due("kind " + kind + ", of no PARTS", press.back(kind, kind == 1 ? 12 : 0, 2, 0), 0);
            check.due("n", press.sheet(0, 0), 0);
        }
    }

    @Sentence(section = "Promise 15", words = "Likewise back.")
    static void backOfNoSuch(Check check) {
        Desk.refused(check, RANGE, p -> p.back(0, 0, 0, 2), p -> p.back(6, 0, 0, 2), p -> p.back(-1, 0, 0, 2), p -> p.back(FAR, 0, 0, 2),
            p -> p.back(LEAST, 0, 0, 2), p -> p.back(1, 1, 0, 2), p -> p.back(1, 13, 0, 2), p -> p.back(1, 0, 0, 2), p -> p.back(1, FAR, 0, 2),
            p -> p.back(1, LEAST, 0, 2), p -> p.back(2, 1, 2, 0), p -> p.back(3, 1, 2, 0), p -> p.back(4, 1, 0, 2), p -> p.back(5, 1, 0, 2),
            p -> p.back(4, -1, 0, 2), p -> p.back(4, 2, 0, 2), p -> p.back(4, 0, -1, 0), p -> p.back(4, 0, 8, 0), p -> p.back(4, 0, 0, -1),
            p -> p.back(4, 0, 0, 8), p -> p.back(4, 0, FAR, 0), p -> p.back(4, 0, 0, LEAST));
    }

    @Sentence(section = "Promise 15", words = "Likewise back.")
    static void backOfAnotherKind(Check check) {
        Desk.refused(check, KIND, p -> p.back(1, 2, 0, 2), p -> p.back(1, 2, 1, 2), p -> p.back(1, 4, 1, 2), p -> p.back(1, 5, 0, 2),
            p -> p.back(2, 0, 0, 2), p -> p.back(2, 0, 1, 2), p -> p.back(2, 0, 7, 2), p -> p.back(3, 0, 4, 2), p -> p.back(3, 0, 7, 2),
            p -> p.back(5, 0, 4, 2), p -> p.back(5, 0, 7, 2));
    }

    @Sentence(section = "Promise 15", words = "Likewise back.")
    static void backRangeGoesBeforeKind(Check check) {
        Desk.refused(check, RANGE, p -> p.back(2, 0, 0, 8), p -> p.back(2, 1, 0, 2), p -> p.back(3, 0, 4, -1), p -> p.back(5, 0, 7, 8),
            p -> p.back(1, 13, 0, 2), p -> p.back(1, 1, 0, 2), p -> p.back(1, 2, 0, 8), p -> p.back(6, 0, 7, 2));
    }

    @Sentence(section = "Promise 15", words = "Likewise back.")
    static void backIsAnAct(Check check) {
        PartitionPress press = Desk.with(3, 1, 1);
        Desk.put(press, 1, 4);
        Desk.put(press, 2, 3, 2);
        Desk.act(check, press, 1, 2, p -> p.back(1, 2, 0, 1));
        Desk.act(check, press, 1, 1, p -> p.back(2, 0, 0, 1));
        Desk.act(check, press, 1, 1, p -> p.back(3, 0, 2, 1));
        Desk.act(check, press, 0, 3, p -> p.back(4, 0, 0, 0));
        Desk.act(check, press, 2, 2, p -> p.back(5, 0, 2, 2));
        Desk.act(check, press, 7, 0, p -> p.back(5, 0, 7, 7));
        Desk.noAct(check, press, 1, KIND, p -> p.back(3, 0, 0, 1));
        Desk.noAct(check, press, 1, RANGE, p -> p.back(6, 0, 0, 1));
    }

    // ---- promise 16

    @Sentence(section = "Promise 16", words = "SHEET to has the core by t of SHEET s: its n")
    static void coreTellsN(Check check) {
        PartitionPress press = Desk.laid();
        check.due("of no PARTS by 2", press.core(2, 2, 0), 0);
        check.due("of no PARTS by 12", press.core(12, 2, 0), 0);
        check.due("SHEET 0", press.sheet(0, 1), 0);
        check.due("of 400 by 12", press.core(12, 1, 0), 4);
        check.due("4", Sums.read(press, 0), 4);
        check.due("s stays", Sums.read(press, 1), 400);
        check.due("of 400 PARTS 1 by 11", press.core(11, 7, 0), 4);
        check.due("1 1 1 1", Sums.read(press, 0), 1, 1, 1, 1);
        check.due("of a core", press.core(2, 3, 0), 6);
        check.due("3 2 1", Sums.read(press, 0), 3, 2, 1);
        check.due("on itself", press.core(3, 1, 1), 1);
        check.due("1", Sums.read(press, 1), 1);
    }

    @Sentence(section = "Promise 16", words = "its n; RANGE.")
    static void coreOfNoSuch(Check check) {
        Desk.refused(check, RANGE, p -> p.core(1, 0, 2), p -> p.core(13, 0, 2), p -> p.core(0, 0, 2), p -> p.core(-2, 0, 2),
            p -> p.core(FAR, 0, 2), p -> p.core(LEAST, 0, 2), p -> p.core(2, -1, 2), p -> p.core(2, 8, 2), p -> p.core(2, 0, -1),
            p -> p.core(2, 0, 8), p -> p.core(2, FAR, 2), p -> p.core(2, 0, LEAST));
    }

    @Sentence(section = "Promise 16", words = "(An ACT.)")
    static void coreIsAnAct(Check check) {
        PartitionPress press = Desk.with(5, 3);
        Desk.put(press, 1, 4);
        Desk.act(check, press, 1, 2, p -> p.core(3, 0, 1));
        Desk.act(check, press, 0, 2, p -> p.core(3, 0, 0));
        Desk.act(check, press, 1, 0, p -> p.core(3, 7, 1));
        Desk.noAct(check, press, 1, RANGE, p -> p.core(13, 0, 1));
    }

    // ---- promise 17

    @Sentence(section = "Promise 17", words = "SHEET to has the quotient r by t: its n")
    static void quotientTellsN(Check check) {
        PartitionPress press = Desk.laid();
        check.due("of no PARTS", press.quotient(2, 0, 2, 0), 0);
        check.due("SHEET 0", press.sheet(0, 1), 0);
        check.due("of 400 by 2", press.quotient(2, 1, 1, 0), 200);
        check.due("200", Sums.read(press, 0), 200);
        check.due("s stays", Sums.read(press, 1), 400);
        check.due("of 400 by 12: 4 left over stand on runner 3", press.quotient(12, 3, 1, 0), 33);
        check.due("33", Sums.read(press, 0), 33);
        check.due("of 400 PARTS 1 by 2", press.quotient(2, 0, 7, 0), 200);
        check.due("200 PARTS 1", press.sheet(0, 1), 200);
        check.due("of a core", press.quotient(2, 0, 3, 0), 0);
        check.due("of a core", press.quotient(2, 1, 3, 0), 0);
        check.due("on itself", press.quotient(2, 1, 1, 1), 200);
        check.due("200", Sums.read(press, 1), 200);
    }

    @Sentence(section = "Promise 17", words = "its n; RANGE: also")
    static void quotientOfNoSuch(Check check) {
        Desk.refused(check, RANGE, p -> p.quotient(1, 0, 0, 2), p -> p.quotient(13, 0, 0, 2), p -> p.quotient(0, 0, 0, 2),
            p -> p.quotient(-2, 0, 0, 2), p -> p.quotient(FAR, 0, 0, 2), p -> p.quotient(LEAST, 0, 0, 2), p -> p.quotient(2, 0, -1, 2),
            p -> p.quotient(2, 0, 8, 2), p -> p.quotient(2, 0, 0, -1), p -> p.quotient(2, 0, 0, 8), p -> p.quotient(2, 0, FAR, 2),
            p -> p.quotient(2, 0, 0, LEAST));
    }

    @Sentence(section = "Promise 17", words = "also r is not 0 .. t - 1.")
    static void quotientOfNoSuchRunner(Check check) {
        for (int t = 2; t <= 12; t++) {
            int by = t;
            PartitionPress press = Desk.with(5, 3);
            check.holds("r 0 by " + t, press.quotient(t, 0, 0, 1) >= 0);
            check.holds("r t - 1 by " + t, press.quotient(t, t - 1, 0, 1) >= 0);
            Desk.refused(check, RANGE, p -> p.quotient(by, by, 0, 2), p -> p.quotient(by, -1, 0, 2), p -> p.quotient(by, FAR, 0, 2),
                p -> p.quotient(by, LEAST, 0, 2));
        }
    }

    @Sentence(section = "Promise 17", words = "(An ACT.)")
    static void quotientIsAnAct(Check check) {
        PartitionPress press = Desk.with(5, 3);
        Desk.put(press, 1, 4);
        Desk.act(check, press, 1, 2, p -> p.quotient(3, 1, 0, 1));
        Desk.act(check, press, 0, 0, p -> p.quotient(3, 0, 0, 0));
        Desk.act(check, press, 1, 0, p -> p.quotient(3, 2, 7, 1));
        Desk.noAct(check, press, 1, RANGE, p -> p.quotient(3, 3, 0, 1));
    }

    // ---- promise 18

    @Sentence(section = "Promise 18", words = "SHEET s, that is a core by t, becomes the SUM with this core, "
        + "and with quotients that are the SHEETS from q on (q .. q + t - 1): its n")
    static void joinTellsN(Check check) {
        PartitionPress press = new PartitionPress();
        check.due("of no PARTS at all", press.join(2, 0, 1), 0);
        check.due("of no PARTS at all, by 7", press.join(7, 7, 0), 0);
        check.due("by 7, from 1 on", press.join(7, 0, 1), 0);
        Desk.put(press, 0, 2, 1);
        check.due("a core with empty quotients", press.join(2, 0, 6), 3);
        check.due("stays", Sums.read(press, 0), 2, 1);
        Desk.put(press, 3, 1);
        Desk.put(press, 4, 2, 1);
        check.due("a core with two quotients", press.join(2, 0, 3), 11);
        check.due("core", press.core(2, 0, 5), 3);
        check.due("2 1", Sums.read(press, 5), 2, 1);
        check.due("quotient 0", press.quotient(2, 0, 0, 5), 1);
        check.due("1", Sums.read(press, 5), 1);
        check.due("quotient 1", press.quotient(2, 1, 0, 5), 3);
        check.due("2 1", Sums.read(press, 5), 2, 1);
        check.due("the quotients stay", Sums.read(press, 4), 2, 1);
    }

    @Sentence(section = "Promise 18", words = "RANGE: no such (q and t at most 8)")
    static void joinOfNoSuch(Check check) {
        PartitionPress press = new PartitionPress();
        check.due("q 6 and t 2", press.join(2, 0, 6), 0);
        check.due("q 1 and t 7", press.join(7, 0, 1), 0);
        check.due("q 0 and t 7", press.join(7, 7, 0), 0);
        Desk.refused(check, RANGE, p -> p.join(2, 2, 7), p -> p.join(3, 2, 6), p -> p.join(7, 2, 2), p -> p.join(8, 2, 0), p -> p.join(8, 0, 1),
            p -> p.join(12, 2, 0), p -> p.join(13, 2, 0), p -> p.join(1, 2, 3), p -> p.join(0, 2, 3), p -> p.join(-1, 2, 3),
            p -> p.join(2, 2, -1), p -> p.join(2, 2, -2), p -> p.join(2, 2, 8), p -> p.join(2, -1, 3), p -> p.join(2, 8, 3),
            p -> p.join(FAR, 2, 3), p -> p.join(2, FAR, 3), p -> p.join(2, 2, FAR), p -> p.join(LEAST, 2, 3), p -> p.join(2, LEAST, 3),
            p -> p.join(2, 2, LEAST), p -> p.join(FAR, 2, FAR));
    }

    @Sentence(section = "Promise 18", words = "or s is one of them")
    static void joinOfOneOfThem(Check check) {
        PartitionPress press = new PartitionPress();
        check.due("s is ahead of them", press.join(2, 2, 3), 0);
        check.due("s is behind them", press.join(2, 5, 3), 0);
        Desk.refused(check, RANGE, p -> p.join(2, 2, 2), p -> p.join(2, 3, 2), p -> p.join(3, 2, 0), p -> p.join(2, 2, 1), p -> p.join(7, 2, 0),
            p -> p.join(7, 6, 0), p -> p.join(8, 7, 0), p -> p.join(8, 0, 0));
    }

    @Sentence(section = "Promise 18", words = "KIND: no core")
    static void joinOfNoCore(Check check) {
        check.due("2 1 is a core by 2", Desk.with(2, 1).join(2, 0, 2), 3);
        check.due("2 is none", Desk.with(2).join(2, 0, 2), KIND);
        check.due("7 is none by 7", Desk.with(7).join(7, 0, 1), KIND);
        check.due("6 is one", Desk.with(6).join(7, 0, 1), 6);
        Desk.refused(check, KIND, p -> p.join(2, 0, 3), p -> p.join(3, 3, 4), p -> p.join(2, 1, 2), p -> p.join(2, 7, 2));
    }

    @Sentence(section = "Promise 18", words = "FULL: n would be above 400.")
    static void joinWithNoRoom(Check check) {
        PartitionPress press = Desk.with(1);
        Desk.put(press, 1, 200);
        check.due("1 and 2 times 200", press.join(2, 0, 1), FULL);
        check.due("1 stays", Sums.read(press, 0), 1);
        check.due("0 and 2 times 200", press.join(2, 7, 1), 400);
        press.clear(1);
        Desk.put(press, 1, 199, 1);
        check.due("0 and 2 times 200 in two PARTS", press.join(2, 6, 1), 400);
        Desk.put(press, 2, 1);
        check.due("0 and 2 times 201", press.join(2, 5, 1), FULL);
        PartitionPress seven = Desk.with(57);
        Desk.put(seven, 7, 1);
        check.due("1 and 7 times 57", seven.join(7, 7, 0), 400);
        seven.clear(7);
        Desk.put(seven, 7, 2);
        check.due("2 and 7 times 57", seven.join(7, 7, 0), FULL);
        PartitionPress high = new PartitionPress();
        Desk.putOnes(high, 200, 3);
        check.due("2 times 200 PARTS 1", high.join(2, 0, 3), 400);
        check.due("400 PARTS 1", high.sheet(0, 1), 400);
        Desk.refused(check, FULL, p -> p.join(2, 2, 0), p -> p.join(2, 3, 0), p -> p.join(2, 2, 6), p -> p.join(5, 2, 3));
    }

    @Sentence(section = "Promise 18", words = "or s is one of them; KIND: no core; FULL: n would be above 400.")
    static void joinRangeGoesBeforeKindAndKindBeforeFull(Check check) {
        Desk.refused(check, RANGE, p -> p.join(2, 0, 0), p -> p.join(2, 1, 1), p -> p.join(2, 0, 7), p -> p.join(8, 4, 0), p -> p.join(2, 7, 6));
        Desk.refused(check, KIND, p -> p.join(2, 4, 0), p -> p.join(3, 3, 0), p -> p.join(2, 0, 6));
    }

    @Sentence(section = "Promise 18", words = "(An ACT.)")
    static void joinIsAnAct(Check check) {
        PartitionPress press = Desk.with(1);
        Desk.put(press, 1, 3);
        Desk.put(press, 6, 2);
        Desk.act(check, press, 0, 7, p -> p.join(2, 0, 1));
        Desk.act(check, press, 0, 1, p -> p.join(2, 0, 3));
        Desk.act(check, press, 7, 0, p -> p.join(2, 7, 3));
        Desk.noAct(check, press, 6, KIND, p -> p.join(2, 6, 1));
        Desk.noAct(check, press, 0, RANGE, p -> p.join(2, 0, 0));
        press.clear(1);
        Desk.put(press, 1, 200);
        Desk.noAct(check, press, 0, FULL, p -> p.join(2, 0, 1));
    }

    // ---- promise 19

    @Sentence(section = "Promise 19", words = "SHEET s loses one HOOK of t: 1")
    static void peelTakesOneHook(Check check) {
        PartitionPress press = Desk.with(400);
        check.due("400 by 12", press.peel(12, 0), 1);
        check.due("388", Sums.read(press, 0), 388);
        Desk.putOnes(press, 400, 7);
        check.due("400 PARTS 1 by 2", press.peel(2, 7), 1);
        check.due("398 PARTS 1", press.sheet(7, 1), 398);
        Desk.put(press, 1, 2);
        check.due("the last HOOK", press.peel(2, 1), 1);
        check.due("no PARTS", press.sheet(1, 1), 0);
        Desk.put(press, 2, 4, 3, 3);
        check.due("4 3 3 by 3", press.peel(3, 2), 1);
        check.due("the second row's, as the first one has none", Sums.read(press, 2), 4, 2, 1);
    }

    @Sentence(section = "Promise 19", words = "0 when it is a core")
    static void peelOfACore(Check check) {
        PartitionPress press = Desk.with(3, 2, 1);
        Desk.noAct(check, press, 0, 0, p -> p.peel(2, 0));
        Desk.noAct(check, press, 1, 0, p -> p.peel(2, 1));
        Desk.noAct(check, press, 1, 0, p -> p.peel(12, 1));
        Desk.put(press, 2, 11);
        Desk.noAct(check, press, 2, 0, p -> p.peel(12, 2));
        Desk.refused(check, 0, p -> p.peel(2, 2), p -> p.peel(2, 3), p -> p.peel(12, 0));
    }

    @Sentence(section = "Promise 19", words = "0 when it is a core; RANGE.")
    static void peelOfNoSuch(Check check) {
        Desk.refused(check, RANGE, p -> p.peel(1, 0), p -> p.peel(13, 0), p -> p.peel(0, 0), p -> p.peel(-2, 0), p -> p.peel(FAR, 0),
            p -> p.peel(LEAST, 0), p -> p.peel(2, -1), p -> p.peel(2, 8), p -> p.peel(2, FAR), p -> p.peel(2, LEAST));
    }

    @Sentence(section = "Promise 19", words = "(An ACT, when 1.)")
    static void peelIsAnActWhenOne(Check check) {
        PartitionPress press = Desk.with(5, 3);
        Desk.act(check, press, 0, 1, p -> p.peel(2, 0));
        Desk.noAct(check, press, 7, 0, p -> p.peel(2, 7));
        Desk.noAct(check, press, 0, RANGE, p -> p.peel(1, 0));
    }

    // ---- promise 20

    @Sentence(section = "Promise 20", words = "How many FILLINGS a SHEET's SUM has")
    static void fillingsTellsHowMany(Check check) {
        PartitionPress press = new PartitionPress();
        check.due("of no PARTS", press.fillings(0), 1);
        Desk.put(press, 1, 1);
        check.due("of 1", press.fillings(1), 1);
        Desk.put(press, 2, 30);
        check.due("of 30", press.fillings(2), 1);
        Desk.putOnes(press, 30, 3);
        check.due("of 30 PARTS 1", press.fillings(3), 1);
        Desk.put(press, 4, 29, 1);
        check.due("of 29 1", press.fillings(4), 29);
        Desk.put(press, 5, 8, 6, 5, 4, 3, 2, 1, 1);
        check.due("of 8 6 5 4 3 2 1 1", press.fillings(5), byHooks(8, 6, 5, 4, 3, 2, 1, 1));
        check.holds("beyond 32 bits", press.fillings(5) > 1L << 40);
    }

    private static long byHooks(int... sum) {
        java.math.BigInteger ways = java.math.BigInteger.ONE;
        for (int i = 2; i <= Sums.total(sum); i++) {
            ways = ways.multiply(java.math.BigInteger.valueOf(i));
        }
        for (int i = 0; i < sum.length; i++) {
            for (int j = 0; j < sum[i]; j++) {
                ways = ways.divide(java.math.BigInteger.valueOf(Sums.hook(sum, i, j)));
            }
        }
        return ways.longValueExact();
    }

    @Sentence(section = "Promise 20", words = "RANGE: no such SHEET")
    static void fillingsOfNoSuchSheet(Check check) {
        Desk.refused(check, RANGE, p -> p.fillings(-1), p -> p.fillings(8), p -> p.fillings(FAR), p -> p.fillings(LEAST));
    }

    @Sentence(section = "Promise 20", words = "n above 30.")
    static void fillingsOfNAbove30(Check check) {
        check.due("of 30", Desk.with(30).fillings(0), 1);
        check.due("of 31", Desk.with(31).fillings(0), RANGE);
        check.due("of 16 14", Desk.with(16, 14).fillings(0) > 0 ? 1 : 0, 1);
        Desk.refused(check, RANGE, p -> p.fillings(5), p -> p.fillings(6), p -> p.fillings(1), p -> p.fillings(7));
    }

    // ---- promise 21

    @Sentence(section = "Promise 21", words = "In FILLING x of a SHEET (0 .. fillings() less 1)")
    static void fillingXIsBelowFillings(Check check) {
        PartitionPress press = Desk.with(8, 6, 5, 4, 3, 2, 1, 1);
        long many = press.fillings(0);
        check.due("the first", press.filling(0, 0, 30), 0);
        check.due("the last", press.filling(0, many - 1, 30), 7);
        check.due("beyond", press.filling(0, many, 30), RANGE);
        check.due("below", press.filling(0, -1, 30), RANGE);
        Desk.refused(check, RANGE, p -> p.filling(3, 16, 1), p -> p.filling(3, -1, 1), p -> p.filling(3, Long.MAX_VALUE, 1),
            p -> p.filling(3, Long.MIN_VALUE, 1), p -> p.filling(3, 1L << 32, 1), p -> p.filling(2, 0, 1));
        check.due("the last of 3 2 1", Desk.laid().filling(3, 15, 1), 0);
    }

    @Sentence(section = "Promise 21", words = "in which row v (1 .. n) stands.")
    static void fillingTellsTheRowOfV(Check check) {
        PartitionPress press = Desk.with(30);
        check.due("1 in a row of 30", press.filling(0, 0, 1), 0);
        check.due("30 in a row of 30", press.filling(0, 0, 30), 0);
        check.due("31", press.filling(0, 0, 31), RANGE);
        Desk.putOnes(press, 30, 1);
        for (int v = 1; v <= 30; v++) {
            check.due(v + " in a column of 30", press.filling(1, 0, v), v - 1);
        }
        Desk.refused(check, RANGE, p -> p.filling(0, 0, 0), p -> p.filling(0, 0, 11), p -> p.filling(0, 0, -1), p -> p.filling(0, 0, FAR),
            p -> p.filling(0, 0, LEAST), p -> p.filling(2, 0, 0), p -> p.filling(2, 0, 1), p -> p.filling(3, 0, 7));
    }

    @Sentence(section = "Promise 21", words = "FILLINGS in order: first the one in which the greatest v that stands in unlike rows stands in the upper one.")
    static void fillingsInOrder(Check check) {
        // The rows of 1, 2, 3, 4 in the FILLINGS of 2 1 1, then of 2 2, then of 3 1.
        int[][][] due = {{{0, 1, 2, 0}, {0, 1, 0, 2}, {0, 0, 1, 2}}, {{0, 1, 0, 1}, {0, 0, 1, 1}}, {{0, 1, 0, 0}, {0, 0, 1, 0}, {0, 0, 0, 1}}};
        int[][] sums = {{2, 1, 1}, {2, 2}, {3, 1}};
        for (int i = 0; i < sums.length; i++) {
            PartitionPress press = Desk.with(sums[i]);
            check.due("fillings", press.fillings(0), due[i].length);
            for (int x = 0; x < due[i].length; x++) {
                for (int v = 1; v <= 4; v++) {
                    check.due("FILLING " + x + " of " + java.util.Arrays.toString(sums[i]) + ", row of " + v, press.filling(0, x, v),
                        due[i][x][v - 1]);
                }
            }
        }
    }

    @Sentence(section = "Promise 21", words = "RANGE: no such.")
    static void fillingOfNoSuch(Check check) {
        Desk.refused(check, RANGE, p -> p.filling(-1, 0, 1), p -> p.filling(8, 0, 1), p -> p.filling(FAR, 0, 1), p -> p.filling(LEAST, 0, 1),
            p -> p.filling(5, 0, 1), p -> p.filling(6, 0, 1), p -> p.filling(1, 0, 1), p -> p.filling(7, 0, 1), p -> p.filling(5, 0, 31));
    }

    // ---- promise 22

    @Sentence(section = "Promise 22", words = "II")
    static void heapTellsHowMany(Check check) {
        PartitionPress press = new PartitionPress();
        check.due("ranks of no PARTS", press.heap(0, 0, 1, 0), 1);
        check.due("cranks of no PARTS", press.heap(1, 0, 60, 0), 1);
        check.due("ranks of 1", press.heap(0, 1, 60, 0), 1);
        check.due("cranks of 1", press.heap(1, 1, 60, 59), 1);
        check.due("cranks of 1, the rest 0", press.heap(1, 1, 60, 0), 0);
        long all = 0;
        long cranks = 0;
        for (int r = 0; r < 60; r++) {
            all += press.heap(0, 60, 60, r);
            cranks += press.heap(1, 60, 60, r);
        }
        check.due("all ranks of 60", all, 966467);
        check.due("all cranks of 60", cranks, 966467);
    }

    @Sentence(section = "Promise 22", words = "RANGE: n is not 0 .. 60")
    static void heapOfNoSuchN(Check check) {
        Desk.refused(check, RANGE, p -> p.heap(0, -1, 1, 0), p -> p.heap(0, 61, 1, 0), p -> p.heap(1, -1, 1, 0), p -> p.heap(1, 61, 1, 0),
            p -> p.heap(0, FAR, 1, 0), p -> p.heap(1, LEAST, 1, 0));
    }

    @Sentence(section = "Promise 22", words = "kind 0, 1")
    static void heapOfNoSuchKind(Check check) {
        check.due("kind 0 of 60", new PartitionPress().heap(0, 60, 1, 0), 966467);
        check.due("kind 1 of 60", new PartitionPress().heap(1, 60, 1, 0), 966467);
        Desk.refused(check, RANGE, p -> p.heap(-1, 5, 1, 0), p -> p.heap(2, 5, 1, 0), p -> p.heap(FAR, 5, 1, 0), p -> p.heap(LEAST, 5, 1, 0),
            p -> p.heap(2, 0, 1, 0), p -> p.heap(-1, 0, 1, 0));
    }

    @Sentence(section = "Promise 22", words = "m 1 .. 60")
    static void heapByNoSuchM(Check check) {
        PartitionPress press = new PartitionPress();
        check.due("m 1", press.heap(0, 5, 1, 0), 7);
        check.due("m 60", press.heap(0, 5, 60, 4), 1);
        Desk.refused(check, RANGE, p -> p.heap(0, 5, 0, 0), p -> p.heap(0, 5, 61, 0), p -> p.heap(1, 5, 0, 0), p -> p.heap(1, 5, 61, 0),
            p -> p.heap(0, 5, -1, 0), p -> p.heap(0, 5, FAR, 0), p -> p.heap(0, 5, LEAST, 0), p -> p.heap(0, 0, 0, 0), p -> p.heap(1, 0, 61, 0));
    }

    @Sentence(section = "Promise 22", words = "r 0 .. m - 1.")
    static void heapOfNoSuchRest(Check check) {
        PartitionPress press = new PartitionPress();
        check.due("r 0 by 7", press.heap(0, 5, 7, 0), 1);
        check.due("r 6 by 7", press.heap(0, 5, 7, 6), 1);
        Desk.refused(check, RANGE, p -> p.heap(0, 5, 7, 7), p -> p.heap(0, 5, 7, -1), p -> p.heap(1, 5, 7, 7), p -> p.heap(1, 5, 7, -1),
            p -> p.heap(0, 5, 1, 1), p -> p.heap(0, 5, 60, 60), p -> p.heap(0, 5, 7, FAR), p -> p.heap(0, 5, 7, LEAST),
            p -> p.heap(0, 0, 7, 7), p -> p.heap(1, 0, 7, -1));
    }
}
