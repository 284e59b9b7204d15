import java.util.Arrays;

/** The edges named in ==== 4.: HEADS, what is thrown, ORDER, CASES, SHIFTS for repairs, LOTS, MARKS, FRACTIONS. */
final class BottleBounds extends Bounds {
    private static final String SECTION = "==== 4.";

    private BottleBounds() {
    }

    static void all() {
        headsOfBottles();
        headsAmiss();
        weighed();
        thrownForShort();
        glass();
        order();
        closes();
        cases();
        repairs();
        lots();
        torn();
        marks();
        fractions();
    }

    private static long[] filled(int many, long v) {
        long[] row = new long[many];
        Arrays.fill(row, v);
        return row;
    }

    /** 0, step, 2 steps .. */
    private static long[] steps(int many, long from, long step) {
        long[] row = new long[many];
        for (int k = 0; k < many; k++) {
            row[k] = from + k * step;
        }
        return row;
    }

    private static void amiss(int sets, int... first) {
        taken(sets, "head", 0);
        for (int k = 0; k < 4; k++) {
            if (k < first.length) {
                taken(first[k], "head", k + 1);
            } else {
                refused(6, "head", k + 1);
            }
        }
    }

    private static void headsOfBottles() {
        sentence(SECTION, "Bottles are numbered from 0 as they come; bottle b is under HEAD b's rest by HEADS of each "
            + "MACHINE.", () -> {
            line(1, "machine a speed 1 heads 3;");
            row(0, 1, 0, 3, 6);
            taken(1, "heads", 9, 0, 3);
            amiss(1, 0, 0);
            row(0, 1, 2, 5, 8);
            taken(1, "heads", 9, 0, 3);
            amiss(1, 0, 2);
            // With the tenth bottle the first head has another one.
            row(0, 1, 0, 3, 6);
            refused(6, "heads", 10, 0, 3);
            row(0, 1, 2, 5, 8);
            taken(1, "heads", 11, 0, 3);
            refused(6, "heads", 12, 0, 3);
            line(1, "machine a speed 1 heads 24;");
            row(0, 1, 23, 47);
            taken(1, "heads", 48, 0, 2);
            amiss(1, 0, 23);
            taken(1, "heads", 71, 0, 2);
            refused(6, "heads", 72, 0, 2);
        });
        sentence(SECTION, "HEADS AMISS: of so many bottles (1 to 9,999) just those in a TRAY (rising) are wrong", () -> {
            full();
            limits(1, 9_999, 0, "heads", 12, 0, 0);
            // The last bottle is one below how many there are.
            row(3, 2, 0, 1);
            refused(5, "heads", 1, 3, 2);
            taken(1, "heads", 1, 3, 1);
            row(3, 2, 9_998);
            refused(5, "heads", 9_998, 3, 1);
            refused(6, "heads", 9_999, 3, 1);
            row(3, 2, -1, 5);
            refused(5, "heads", 12, 3, 2);
            // Of seven bottles the third alone is under the last of b's four heads, 1 and 4 are under one of a's three.
            row(3, 2, 3, 3);
            refused(5, "heads", 7, 3, 2);
            taken(1, "heads", 7, 3, 1);
            row(3, 2, 4, 1);
            refused(5, "heads", 7, 3, 2);
            row(3, 2, 1, 4);
            taken(1, "heads", 7, 3, 2);
            // A 64-bit number is no bottle either.
            row(3, 3, 1L << 32);
            refused(5, "heads", 12, 3, 1);
            row(3, 3, Long.MAX_VALUE);
            refused(5, "heads", 12, 3, 1);
            row(3, 3, Long.MIN_VALUE);
            refused(5, "heads", 12, 3, 1);
        });
    }

    private static void headsAmiss() {
        sentence(SECTION, "the least number of HEADS (0 to 2, of any MACHINES with more than one) so that just the bottles "
            + "under one of them are wrong", () -> {
            line(3, "machine a speed 1;machine b speed 1 heads 2;machine c speed 1 heads 3;");
            row(0, 1, 0, 1, 2, 3, 4, 5);
            taken(0, "heads", 6, 0, 0);
            amiss(1);
            row(1, 1, 0, 2, 4);
            taken(1, "heads", 6, 1, 3);
            amiss(1, 1, 0);
            row(1, 1, 0, 2, 3, 4);
            taken(2, "heads", 6, 1, 4);
            // b0 with c0; c0 with c1 would be 0, 1, 3, 4.
            amiss(1, 1, 0, 2, 0);
            // All: both heads of b; three of c would be too many.
            taken(2, "heads", 6, 0, 6);
            amiss(1, 1, 0, 1, 1);
            row(1, 1, 0, 1, 3, 4);
            taken(2, "heads", 6, 1, 4);
            amiss(1, 2, 0, 2, 1);
            // Not with two.
            line(1, "machine c speed 1 heads 3;");
            refused(6, "heads", 6, 0, 6);
            // A machine with one head is never to blame.
            line(2, "machine a speed 1;machine b speed 1 heads 1;");
            refused(6, "heads", 6, 0, 6);
            refused(6, "heads", 1, 0, 1);
            taken(0, "heads", 6, 0, 0);
            line(1, "machine a speed 1 heads 2;");
            taken(1, "heads", 1, 0, 1);
            amiss(1, 0, 0);
            // Without machines none can be, but of none wrong there are none to find.
            line(0, "");
            refused(6, "heads", 1, 0, 1);
            taken(0, "heads", 9_999, 0, 0);
            amiss(1);
        });
        sentence(SECTION, "how many such sets there are; the first one (by MACHINE, then HEAD, the lesser ahead).", () -> {
            line(3, "machine a speed 1 heads 4;machine b speed 1 heads 5;machine c speed 1 heads 4;");
            row(0, 1, 1, 3);
            taken(1, "heads", 3, 0, 1);
            amiss(3, 0, 1);
            // Each of three heads under bottle 1 with each of three under bottle 3.
            taken(2, "heads", 4, 0, 2);
            amiss(9, 0, 1, 0, 3);
            // Of six bottles only b's head 4 has bottle 4 alone; bottle 2 alone is under a's, b's and c's head 2.
            row(0, 1, 2, 4);
            taken(2, "heads", 6, 0, 2);
            amiss(3, 0, 2, 1, 4);
        });
    }

    private static void weighed() {
        sentence(SECTION, "SHORT: every n-th bottle (0, n ..; n 1 to 99) is weighed", () -> {
            full();
            limits(1, 99, 2, "brief", 0, 3, 1, 0, 9);
            row(3, 1, 5, 1, 5);
            taken(1, "brief", 3, 3, 1, 5, 5);
            taken(3, "brief", 3, 3, 2, 5, 5);
            taken(197, "brief", 3, 3, 99, 5, 5);
            row(3, 1, filled(60, 1));
            taken(60, "brief", 3, 60, 1, 5, 5);
            taken(5_842, "brief", 3, 60, 99, 5, 5);
        });
        sentence(SECTION, "(-999 to 9,999 each, in a TRAY): good from a least to a most.", () -> {
            full();
            row(3, 2, -999, 9_999);
            taken(0, "brief", 3, 2, 1, -999, 9_999);
            taken(1, "brief", 3, 2, 1, -998, 9_999);
            taken(1, "brief", 3, 2, 1, -999, 9_998);
            taken(2, "brief", 3, 2, 1, -998, 9_998);
            row(3, 2, -1_000);
            refused(5, "brief", 3, 1, 1, -999, 9_999);
            refused(5, "brief", 3, 1, 1, -2_000, 20_000);
            row(3, 2, 10_000);
            refused(5, "brief", 3, 1, 1, -999, 9_999);
            row(3, 3, 4, 5, 6, 7, 1L << 32);
            taken(2, "brief", 3, 4, 1, 5, 6);
            taken(3, "brief", 3, 4, 1, 5, 5);
            refused(5, "brief", 3, 5, 1, 5, 6);
            // A number behind those that are asked for may be anything.
            taken(1, "brief", 3, 1, 1, 5, 6);
            taken(0, "brief", 3, 4, 1, Integer.MIN_VALUE, Integer.MAX_VALUE);
        });
    }

    private static void thrownForShort() {
        sentence(SECTION, "all bottles are thrown from the one behind the latest good one ahead of it (from 0, if there is "
            + "none) to the one ahead of the next good one (to that weighed last, if there is none): how many in all.", () -> {
            // Between good ones at 0 and 20: 1 to 19.
            brief(19, 5, 1, 5);
            // From 0: 0 to 9. To that weighed last: 1 to 10.
            brief(10, 1, 5);
            brief(10, 5, 1);
            // None is good: 0 to 20; a single one: 0 alone.
            brief(21, 1, 1, 1);
            brief(1, 1);
            brief(0, 5);
            brief(0, 5, 5, 5);
            // Two beside each other are thrown once: 1 to 29.
            brief(29, 5, 1, 9, 5);
            // Two with a good one between: 1 to 19 and 21 to 39.
            brief(38, 5, 1, 5, 9, 5);
            // Between two good ones nothing is thrown.
            brief(10, 1, 5, 5);
            brief(10, 5, 5, 1);
            // 0 to 9 and 11 to 20.
            brief(20, 1, 5, 1);
        });
    }

    private static void brief(int thrown, long... weights) {
        row(0, 1, weights);
        taken(thrown, "brief", 0, weights.length, 10, 5, 5);
    }

    private static void glass() {
        sentence(SECTION, "GLASS: couples of MACHINE and bottle in a TRAY (1 to 20): for each all bottles from as many ahead "
            + "as it has HEADS to as many behind (from 0) are thrown: how many in all.", () -> {
            full();
            row(3, 1, steps(40, 0, 0));
            limits(1, 20, 1, "glass", 3, 1);
            // MACHINE 0 has three heads, MACHINE 2 one.
            row(3, 1, 0, 3);
            taken(7, "glass", 3, 1);
            row(3, 1, 0, 2);
            taken(6, "glass", 3, 1);
            row(3, 1, 0, 0);
            taken(4, "glass", 3, 1);
            row(3, 1, 2, 0);
            taken(2, "glass", 3, 1);
            row(3, 1, 0, 9_999);
            taken(7, "glass", 3, 1);
            // Each is thrown once: 10 to 12 and 13 to 15; 10 to 12 and 12 to 14.
            row(3, 1, 2, 11, 2, 14);
            taken(6, "glass", 3, 2);
            row(3, 1, 2, 11, 2, 13);
            taken(5, "glass", 3, 2);
            row(3, 1, 2, 11, 2, 11);
            taken(3, "glass", 3, 2);
            row(3, 1, 2, 11, 0, 11);
            taken(7, "glass", 3, 2);
            // 20 to 22, 8 to 14, 11 to 13, 21 to 23.
            row(3, 1, 2, 21, 0, 11, 2, 12, 2, 22);
            taken(11, "glass", 3, 4);
            rich();
            long[] twenty = new long[40];
            for (int k = 0; k < 20; k++) {
                twenty[2 * k + 1] = 100 * k;
            }
            row(3, 1, twenty);
            taken(4 + 19 * 7, "glass", 3, 20);
            // The most heads there are.
            line(1, "machine a speed 1 heads 24;");
            row(3, 1, 0, 24);
            taken(49, "glass", 3, 1);
            row(3, 1, 0, 23);
            taken(48, "glass", 3, 1);
        });
    }

    private static void order() {
        sentence(SECTION, "ORDER of a set of SORTS (1 for SORT 0, 2 for 1 ..), from one of them on: all others, each once, "
            + "with the least WASH together; of several the first (the lesser SORT ahead, place by place).", () -> {
            line(0, "sort a;sort b;sort c;sort d;sort e;sort f;sort g;wash g a 0;");
            // One alone, the first and the last.
            taken(0, "order", 1, 0);
            taken(0, "ordered", 0);
            refused(6, "ordered", 1);
            taken(0, "order", 64, 6);
            taken(6, "ordered", 0);
            refused(6, "ordered", 1);
            // All seven, all ways alike.
            taken(60, "order", 127, 0);
            for (int k = 0; k < 7; k++) {
                taken(k, "ordered", k);
            }
            refused(6, "ordered", 7);
            taken(50, "order", 127, 6);
            taken(6, "ordered", 0);
            taken(0, "ordered", 1);
            taken(1, "ordered", 2);
            refused(1, "order", 128, 0);
            refused(1, "order", 129, 0);
            // The least together is not the least at each place.
            line(0, "sort a;sort b;sort c;wash a b 1;wash b c 999;wash a c 2;wash c b 3;");
            taken(5, "order", 7, 0);
            taken(2, "ordered", 1);
            taken(1, "ordered", 2);
            // Of two alike the one with the lesser ahead; with one less on the other way that one.
            line(0, "sort a;sort b;sort c;wash a b 4;wash b c 4;wash a c 3;wash c b 5;");
            taken(8, "order", 7, 0);
            taken(1, "ordered", 1);
            line(0, "sort a;sort b;sort c;wash a b 4;wash b c 4;wash a c 3;wash c b 4;");
            taken(7, "order", 7, 0);
            taken(2, "ordered", 1);
            // The farthest that can be.
            line(0, "sort a;sort b;wash a b 999;");
            taken(999, "order", 3, 0);
            taken(10, "order", 3, 1);
        });
    }

    private static void closes() {
        sentence(SECTION, "CLOSES: of each TABLE four numbers in a TRAY (bottles laid on it, taken off, lying there, thrown): "
            + "the first TABLE of which the first is not the sum of the others.", () -> {
            line(3, "machine a speed 1;machine b speed 1;machine c speed 1;");
            row(0, 2, 6, 3, 2, 1, 6, 1, 2, 3);
            taken(-1, "closes", 0);
            row(0, 2, 7, 3, 2, 1, 6, 1, 2, 3);
            taken(0, "closes", 0);
            row(0, 2, 6, 3, 2, 1, 6, 1, 2, 4);
            taken(1, "closes", 0);
            row(0, 2, 5, 3, 2, 1, 6, 1, 2, 4);
            taken(0, "closes", 0);
            row(0, 2, 6, 3, 2, 1, 6, 1, 2, 3, 9);
            taken(-1, "closes", 0);
            row(0, 2, 6, 3, 2, 1, 6, 1, 2);
            refused(3, "closes", 0);
            // One machine, or none, has no TABLE: all close.
            line(1, "machine a speed 1;");
            row(0, 2);
            taken(-1, "closes", 0);
            line(0, "");
            taken(-1, "closes", 0);
            // Five TABLES, the last one is amiss.
            line(6, "machine a speed 1;machine b speed 1;machine c speed 1;machine d speed 1;machine e speed 1;"
                + "machine f speed 1;");
            row(0, 2, steps(20, 0, 0));
            taken(-1, "closes", 0);
            taken(1, "write", 0, 19, 1);
            taken(4, "closes", 0);
            row(0, 2, steps(19, 0, 0));
            refused(3, "closes", 0);
        });
    }

    private static void cases() {
        sentence(SECTION, "CASES hold so many bottles each (1 to 99), from 0 on.", () -> {
            full();
            limits(1, 99, 0, "recall", 1, 5, 5, 5, 5, 0);
            taken(5, "recall", 1, 5, 5, 5, 5, 1);
            taken(0, "recall", 99, 98, 98, 98, 98, 1);
            taken(1, "recall", 99, 99, 99, 99, 99, 1);
            taken(2, "recall", 99, 98, 99, 98, 99, 0);
            taken(1, "recall", 99, 99, 197, 99, 197, 0);
            taken(101, "recall", 99, 9_999, 9_999, 9_999, 9_999, 1);
            taken(9_999, "recall", 1, 9_999, 9_999, 0, 9_999, 1);
            taken(9_999, "recall", 1, 9_999, 9_999, 0, 9_999, 2);
        });
        sentence(SECTION, "bottles from a to b are called back surely, those from c to d perhaps (c not above a, b not above "
            + "d): CASES with one of the first are SURE, others with one of the second MAY BE.", () -> {
            full();
            // a and b from 10 to 19 are CASE 1 of ten; one beyond on either side is another CASE.
            taken(1, "recall", 10, 10, 19, 10, 19, 0);
            taken(2, "recall", 10, 9, 19, 9, 19, 0);
            taken(2, "recall", 10, 10, 20, 10, 20, 0);
            taken(0, "recall", 10, 10, 19, 10, 19, 2);
            taken(1, "recall", 10, 10, 19, 9, 19, 2);
            taken(1, "recall", 10, 10, 19, 10, 20, 2);
            taken(2, "recall", 10, 10, 19, 9, 20, 2);
            taken(0, "recall", 10, 10, 19, 9, 20, 3);
            taken(2, "recall", 10, 10, 19, 10, 20, 3);
            // The same CASE is SURE, not MAY BE.
            taken(0, "recall", 10, 14, 15, 10, 19, 2);
            refused(6, "recall", 10, 14, 15, 10, 19, 3);
            // c not above a, b not above d.
            taken(1, "recall", 10, 14, 15, 14, 15, 0);
            refused(1, "recall", 10, 14, 15, 15, 15, 0);
            refused(1, "recall", 10, 14, 15, 14, 14, 0);
            refused(1, "recall", 10, 14, 13, 13, 14, 0);
            taken(1, "recall", 10, 14, 14, 14, 14, 0);
        });
    }

    private static void repairs() {
        sentence(SECTION, "SHIFTS of a length (1 to 999) for repairs (1 to 8, minutes in a TRAY, 1 to 999)", () -> {
            full();
            row(3, 1, filled(8, 1));
            limits(1, 999, 2, "shifts", 3, 8, 1);
            limits(1, 8, 1, "shifts", 3, 1, 5);
            taken(8, "shifts", 3, 8, 1);
            taken(1, "shifts", 3, 8, 999);
            row(3, 1, 0, 1);
            refused(5, "shifts", 3, 1, 999);
            row(3, 1, 1_000);
            refused(5, "shifts", 3, 1, 999);
            row(3, 1, 999, -1);
            taken(1, "shifts", 3, 1, 999);
            refused(5, "shifts", 3, 2, 999);
            row(3, 1, filled(9, 1));
            refused(1, "shifts", 3, 9, 999);
        });
        sentence(SECTION, "the fewest so that the repairs in each are no longer than it", () -> {
            packed(10, new long[] {4, 6}, 0, 0);
            packed(9, new long[] {4, 6}, 0, 1);
            packed(10, new long[] {10}, 0);
            packed(999, new long[] {999, 999, 999, 999, 999, 999, 999, 999}, 0, 1, 2, 3, 4, 5, 6, 7);
            packed(999, new long[] {500, 499}, 0, 0);
            packed(999, new long[] {500, 500}, 0, 1);
            // The first that fits is not the fewest: 4 and 6, 4 and 6, 2 and 8.
            packed(10, new long[] {4, 4, 6, 6, 2, 8}, 0, 1, 0, 1, 2, 2);
        });
        sentence(SECTION, "of several ways the first (repair 0 in shift 0; by repairs, the lesser shift ahead; a new shift is "
            + "the next number).", () -> {
            packed(10, new long[] {5, 5, 5, 5}, 0, 0, 1, 1);
            packed(10, new long[] {9, 9, 1, 1}, 0, 1, 0, 1);
            packed(10, new long[] {9, 1, 9, 1}, 0, 0, 1, 1);
            packed(10, new long[] {6, 6, 6, 1, 1, 1, 1, 1}, 0, 1, 2, 0, 0, 0, 0, 1);
            packed(5, new long[] {1, 5, 1, 5, 1}, 0, 1, 0, 2, 0);
        });
    }

    private static void packed(int length, long[] minutes, int... shifts) {
        row(0, 1, minutes);
        taken(Arrays.stream(shifts).max().orElse(0) + 1, "shifts", 0, minutes.length, length);
        for (int k = 0; k < shifts.length; k++) {
            taken(shifts[k], "shiftOf", k);
        }
        refused(6, "shiftOf", shifts.length);
    }

    private static void lots() {
        sentence(SECTION, "LOTS of crowns begin with bottles in a TRAY (1 to 30, rising): a bottle is of the latest one that "
            + "began with it or ahead.", () -> {
            full();
            row(3, 1, steps(31, 5, 10));
            limits(1, 30, 1, "lot", 3, 1, 9);
            refused(6, "lot", 3, 30, 4);
            taken(0, "lot", 3, 30, 5);
            taken(0, "lot", 3, 30, 14);
            taken(1, "lot", 3, 30, 15);
            taken(28, "lot", 3, 30, 294);
            taken(29, "lot", 3, 30, 295);
            taken(29, "lot", 3, 30, 9_999);
            taken(0, "lot", 3, 1, 9_999);
            rich();
            row(3, 1, 5, 5);
            refused(5, "lot", 3, 2, 5);
            row(3, 1, 5, 4);
            refused(5, "lot", 3, 2, 5);
            row(3, 1, 5, 6);
            taken(0, "lot", 3, 2, 5);
            taken(1, "lot", 3, 2, 6);
        });
    }

    private static void torn() {
        sentence(SECTION, "TORN: bottles of so many minutes (1 to 60) in a TRAY, 0 to 99 each, -1: torn; from what all were "
            + "together the torn ones' mean: a FRACTION.", () -> {
            full();
            row(3, 1, filled(60, -1));
            limits(1, 60, 1, "torn", 3, 1, 50);
            taken(1, "torn", 3, 60, 60 * 99);
            fraction(99, 1);
            taken(1, "torn", 3, 60, 1);
            fraction(1, 60);
            rich();
            row(3, 1, -1, 0, 99);
            taken(1, "torn", 3, 3, 99);
            fraction(0, 1);
            taken(1, "torn", 3, 3, 198);
            fraction(99, 1);
            row(3, 1, -1, 100);
            refused(5, "torn", 3, 2, 150);
            row(3, 1, -1, -2);
            refused(5, "torn", 3, 2, 50);
            row(3, 0, 255, 99);
            taken(1, "torn", 3, 2, 100);
            fraction(1, 1);
        });
    }

    private static void marks() {
        sentence(SECTION, "MARKS, at most 3: the LINE, all of its MINUTES, the SHIFT are kept as they are; all is taken back "
            + "to the latest MARK, which is gone then.", () -> {
            refused(6, "back");
            taken(1, "mark");
            line(1, "machine a speed 1;sort s;");
            shift(1, "run 1;");
            taken(2, "mark");
            taken(1, "run", 1);
            shift(2, "run 2;speed a 5;");
            taken(3, "mark");
            refused(4, "mark");
            refused(4, "mark");
            taken(2, "work");
            line(0, "sort x;sort y;");
            taken(2, "back");
            taken(1, "many", 0);
            taken(1, "many", 1);
            taken(1, "many", 2);
            taken(1, "machine", 0, 0);
            taken(2, "work");
            // There is room for one more again; it is another one than that which is gone.
            taken(3, "mark");
            refused(4, "mark");
            taken(2, "back");
            taken(3, "many", 2);
            taken(5, "machine", 0, 0);
            taken(1, "back");
            taken(0, "many", 2);
            taken(1, "machine", 0, 0);
            taken(1, "work");
            taken(0, "back");
            taken(0, "many", 0);
            taken(0, "many", 1);
            taken(0, "work");
            refused(6, "back");
        });
    }

    private static void fractions() {
        sentence(SECTION, "FRACTIONS are told by top() and bottom() without a common divisor, the bottom above 0; 0 is 0 by "
            + "1.", () -> {
            fraction(0, 1);
            row(0, 1, -1, -1, -1, -1, -1, -1, 99);
            mean(99, 0, 1);
            mean(100, 1, 6);
            mean(101, 1, 3);
            mean(102, 1, 2);
            mean(103, 2, 3);
            mean(104, 5, 6);
            mean(105, 1, 1);
            mean(106, 7, 6);
            mean(693, 99, 1);
            line(1, "machine a speed 1;");
            taken(6, "run", 6);
            taken(1, "share", 0);
            fraction(1, 1);
            shift(1, "halt a 3;");
            taken(1, "work");
            taken(0, "run", 3);
            taken(1, "share", 0);
            fraction(2, 3);
            taken(1, "begin", 0);
            taken(1, "work");
            taken(0, "run", 3);
            taken(1, "share", 0);
            fraction(0, 1);
        });
    }

    /** Of six torn ones beside 99. */
    private static void mean(int all, long top, long bottom) {
        taken(1, "torn", 0, 7, all);
        fraction(top, bottom);
    }
}
