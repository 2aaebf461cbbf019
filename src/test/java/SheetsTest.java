import java.util.List;

/** Promises 1 to 8: a new object, part, clear, copy, sheet, hook, next, undo. */
public final class SheetsTest {
    private static final int RANGE = PartitionPress.RANGE;
    private static final Check CHECK = new Check();

    public static void main(String[] args) {
        newObject();
        parts();
        clears();
        copies();
        measures();
        hooks();
        nexts();
        undos();
        CHECK.end();
    }

    private static void newObject() {
        PartitionPress x = new PartitionPress();
        for (int i = 0; i < 8; i++) {
            CHECK.due("1: sheet(" + i + ", 0)", x.sheet(i, 0), 0);
            CHECK.due("1: sheet(" + i + ", 1)", x.sheet(i, 1), 0);
            CHECK.due("1: sheet(" + i + ", 100)", x.sheet(i, 100), RANGE);
            CHECK.due("1: told(" + i + ")", x.told(i), 0);
        }
        CHECK.due("1: told(8)", x.told(8), 0);
        for (int i = 0; i < 4; i++) {
            for (int place = 0; place <= 400; place++) {
                CHECK.due("1: series(" + i + ", " + place + ")", x.series(i, place), 0);
            }
        }
    }

    private static void parts() {
        PartitionPress x = new PartitionPress();
        CHECK.due("2: first part", x.part(7, 9), 1);
        CHECK.due("2: like part", x.part(7, 9), 2);
        CHECK.due("2: above the last", x.part(7, 10), RANGE);
        CHECK.due("2: 0", x.part(7, 0), RANGE);
        CHECK.due("2: below 0", x.part(7, -1), RANGE);
        CHECK.due("2: no sheet 8", x.part(8, 1), RANGE);
        CHECK.due("2: no sheet -1", x.part(-1, 1), RANGE);
        CHECK.due("2: acts", x.told(8), 2);
        CHECK.due("2: 401", x.part(0, 401), PartitionPress.FULL);
        CHECK.due("2: greatest int", x.part(0, Integer.MAX_VALUE), PartitionPress.FULL);
        CHECK.due("2: 400", x.part(0, 400), 1);
        CHECK.due("2: 400 and 1", x.part(0, 1), PartitionPress.FULL);
        CHECK.due("2: above the last goes before no room", x.part(0, 401), RANGE);
        CHECK.due("2: n", x.sheet(0, 0), 400);
        for (int i = 1; i <= 400; i++) {
            CHECK.due("2: part 1, time " + i, x.part(1, 1), i);
        }
        CHECK.due("2: a 401st", x.part(1, 1), PartitionPress.FULL);
        CHECK.due("2: refused: parts", x.sheet(1, 1), 400);
        CHECK.due("2: refused: last part", x.sheet(1, 499), 1);
    }

    private static void clears() {
        PartitionPress x = new PartitionPress();
        Sums.write(x, 3, 7, 5, 5);
        CHECK.due("3: clear", x.clear(3), 17);
        CHECK.due("3: n", x.sheet(3, 0), 0);
        CHECK.due("3: acts", x.told(8), 5);
        CHECK.due("3: of an empty one", x.clear(3), 0);
        CHECK.due("3: an act too", x.told(8), 6);
        CHECK.due("3: no sheet", x.clear(8), RANGE);
        CHECK.due("3: no sheet", x.clear(-1), RANGE);
        CHECK.due("3: refused", x.told(8), 6);
    }

    private static void copies() {
        PartitionPress x = new PartitionPress();
        Sums.write(x, 0, 6, 2, 1);
        Sums.write(x, 1, 4, 4, 4, 4);
        CHECK.due("4: copy", x.copy(0, 1), 9);
        CHECK.due("4: to", Sums.read(x, 1), new int[] {6, 2, 1});
        CHECK.due("4: part", x.part(1, 1), 4);
        CHECK.due("4: from stays", Sums.read(x, 0), new int[] {6, 2, 1});
        int acts = x.told(8);
        CHECK.due("4: on itself", x.copy(0, 0), 9);
        CHECK.due("4: an act", x.told(8), acts + 1);
        CHECK.due("4: stays", Sums.read(x, 0), new int[] {6, 2, 1});
        CHECK.due("4: no s", x.copy(8, 0), RANGE);
        CHECK.due("4: no to", x.copy(0, 8), RANGE);
        CHECK.due("4: no s", x.copy(-1, 0), RANGE);
        CHECK.due("4: no to", x.copy(0, -1), RANGE);
        CHECK.due("4: refused", x.told(8), acts + 1);
    }

    private static void measures() {
        PartitionPress x = new PartitionPress();
        for (int n = 0; n <= 16; n++) {
            for (int[] sum : Sums.all(n)) {
                Sums.write(x, 2, sum);
                measure(x, sum);
            }
        }
        for (int what : new int[] {-1, 8, 9, 50, 99, 500, Integer.MIN_VALUE, Integer.MAX_VALUE}) {
            CHECK.due("5: what " + what, x.sheet(2, what), RANGE);
        }
        CHECK.due("5: no sheet", x.sheet(8, 0), RANGE);
        CHECK.due("5: no sheet", x.sheet(-1, 0), RANGE);
    }

    private static void measure(PartitionPress x, int[] sum) {
        int side = 0;
        int odd = 0;
        int corners = 0;
        java.util.Set<Integer> unlike = new java.util.HashSet<>();
        for (int i = 0; i < sum.length; i++) {
            unlike.add(sum[i]);
            odd += sum[i] % 2;
            side = sum[i] >= i + 1 ? i + 1 : side;
            for (int j = 0; j < sum[i]; j++) {
                corners += Sums.hook(sum, i, j) == 1 ? 1 : 0;
            }
        }
        String of = java.util.Arrays.toString(sum);
        CHECK.due("5: n of " + of, x.sheet(2, 0), Sums.total(sum));
        CHECK.due("5: size of " + of, x.sheet(2, 1), sum.length);
        CHECK.due("5: side of " + of, x.sheet(2, 2), side);
        CHECK.due("5: rank of " + of, x.sheet(2, 3), Sums.rank(sum) + 1000);
        CHECK.due("5: crank of " + of, x.sheet(2, 4), Sums.crank(sum) + 1000);
        CHECK.due("5: unlike of " + of, x.sheet(2, 5), unlike.size());
        CHECK.due("5: odd of " + of, x.sheet(2, 6), odd);
        CHECK.due("5: hooks of one of " + of, x.sheet(2, 7), corners);
        CHECK.due("5: parts", Sums.read(x, 2), sum);
        CHECK.due("5: behind the last of " + of, x.sheet(2, 100 + sum.length), RANGE);
    }

    private static void hooks() {
        PartitionPress x = new PartitionPress();
        for (int[] sum : Sums.all(13)) {
            Sums.write(x, 5, sum);
            for (int i = 0; i < sum.length; i++) {
                for (int j = 0; j < sum[i]; j++) {
                    CHECK.due("6: hook", x.hook(5, i, j), Sums.hook(sum, i, j));
                }
                CHECK.due("6: right of row " + i, x.hook(5, i, sum[i]), RANGE);
                CHECK.due("6: left of row " + i, x.hook(5, i, -1), RANGE);
            }
            CHECK.due("6: below", x.hook(5, sum.length, 0), RANGE);
            CHECK.due("6: above", x.hook(5, -1, 0), RANGE);
        }
        CHECK.due("6: no sheet", x.hook(8, 0, 0), RANGE);
        CHECK.due("6: no sheet", x.hook(-1, 0, 0), RANGE);
        CHECK.due("6: no squares", x.hook(0, 0, 0), RANGE);
        CHECK.due("6: far", x.hook(5, Integer.MAX_VALUE, Integer.MAX_VALUE), RANGE);
        x.clear(5);
        x.part(5, 400);
        CHECK.due("6: of 400", x.hook(5, 0, 0), 400);
    }

    private static void nexts() {
        PartitionPress x = new PartitionPress();
        CHECK.due("7: of 0", x.next(0), 0);
        CHECK.due("7: no act", x.told(8), 0);
        for (int n = 1; n <= 14; n++) {
            List<int[]> all = Sums.all(n);
            Sums.write(x, 0, n);
            for (int i = 0; i < all.size(); i++) {
                CHECK.due("7: sum " + i + " of " + n, Sums.read(x, 0), all.get(i));
                if (i < all.size() - 1) {
                    CHECK.due("7: next", x.next(0), 1);
                }
            }
            x.undo();
            int acts = x.told(8);
            CHECK.due("7: an act", n > 1 ? x.next(0) : 0, n > 1 ? 1 : 0);
            CHECK.due("7: an act is noted", x.told(8), n > 1 ? acts + 1 : acts);
            Sums.write(x, 1, all.get(all.size() - 1));
            acts = x.told(8);
            CHECK.due("7: last", x.next(1), 0);
            CHECK.due("7: last stays", Sums.read(x, 1), all.get(all.size() - 1));
            CHECK.due("7: no act", x.told(8), acts);
        }
        CHECK.due("7: no sheet", x.next(8), RANGE);
        CHECK.due("7: no sheet", x.next(-1), RANGE);
        x.tell(0, 400, 0, 6);
        CHECK.due("7: of 400", x.next(6), 1);
        CHECK.due("7: 399 and 1", Sums.read(x, 6), new int[] {399, 1});
    }

    private static void undos() {
        PartitionPress x = new PartitionPress();
        CHECK.due("8: none", x.undo(), PartitionPress.NONE);
        Sums.write(x, 0, 5, 4);
        Sums.write(x, 1, 3);
        x.copy(0, 1);
        CHECK.due("8: undo", x.undo(), 5);
        CHECK.due("8: copy taken back", Sums.read(x, 1), new int[] {3});
        CHECK.due("8: from stays", Sums.read(x, 0), new int[] {5, 4});
        CHECK.due("8: undo", x.undo(), 4);
        CHECK.due("8: part taken back", Sums.read(x, 1), new int[] {});
        CHECK.due("8: refused call", x.part(0, 5), RANGE);
        CHECK.due("8: is not noted", x.told(8), 4);
        CHECK.due("8: undo", x.undo(), 3);
        CHECK.due("8: undo", x.undo(), 2);
        CHECK.due("8: both parts", Sums.read(x, 0), new int[] {5});
        CHECK.due("8: undo", x.undo(), 1);
        CHECK.due("8: undo", x.undo(), 0);
        CHECK.due("8: none left", x.undo(), PartitionPress.NONE);
        sixtyAtMost();
    }

    private static void sixtyAtMost() {
        PartitionPress x = new PartitionPress();
        for (int i = 1; i <= 70; i++) {
            x.part(4, 1);
            CHECK.due("8: noted", x.told(8), Math.min(i, 60));
        }
        for (int i = 59; i >= 0; i--) {
            CHECK.due("8: still noted", x.undo(), i);
            CHECK.due("8: n", x.sheet(4, 0), 10 + i);
        }
        CHECK.due("8: the first ten are not noted any more", x.undo(), PartitionPress.NONE);
        CHECK.due("8: they stay", x.sheet(4, 0), 10);
        CHECK.due("8: a new one", x.part(4, 1), 11);
        CHECK.due("8: is noted", x.told(8), 1);
        CHECK.due("8: and taken back", x.undo(), 0);
        CHECK.due("8: n", x.sheet(4, 0), 10);
    }
}
