import java.util.Arrays;

/** The edges named in promises 31 to 44: bottles, and MARKS. */
final class BottlePromiseBounds extends Bounds {
    private BottlePromiseBounds() {
    }

    static void all() {
        promise31();
        promise32();
        promise33();
        promise34();
        promises35and36();
        promise37();
        promise38();
        promises39and40();
        promise41();
        promise42();
        promises43and44();
    }

    private static void promise31() {
        sentence("Promise 31", "HEADS AMISS, so many bottles, so many wrong ones (0 to 60) of a TRAY: how many HEADS (1, 2, 3, 5: "
            + "not rising, no such bottle; 6: not with two; in this order).", () -> {
            line(1, "machine a speed 1 heads 24;");
            long[] sixty = new long[60];
            for (int k = 0; k < 60; k++) {
                sixty[k] = 24 * k + 23;
            }
            row(0, 1, sixty);
            limits(0, 60, 2, "heads", 1_440, 0, 60);
            taken(1, "heads", 1_440, 0, 60);
            taken(1, "heads", 1_463, 0, 60);
            refused(6, "heads", 1_464, 0, 60);
            refused(5, "heads", 1_439, 0, 60);
            refused(6, "heads", 1_440, 0, 59);
            taken(1, "heads", 1_439, 0, 59);
            // 60 of 60 bottles under two heads of two; 61 can't be told.
            line(1, "machine a speed 1 heads 2;");
            for (int k = 0; k < 60; k++) {
                sixty[k] = k;
            }
            row(0, 1, sixty);
            taken(2, "heads", 60, 0, 60);
            refused(6, "heads", 61, 0, 60);
            refused(1, "heads", 61, 0, 61);
            full();
            row(3, 2, 0, 1);
            limits(0, 3, 1, "heads", 12, 0, 0);
            limits(1, 9_999, 0, "heads", 12, 0, 0);
            headsInOrder();
        });
    }

    private static void headsInOrder() {
        full();
        refused(1, "heads", 0, 3, 61);
        refused(2, "heads", 12, 3, 60);
        row(3, 2, 7, 7);
        refused(3, "heads", 12, 3, 3);
        refused(5, "heads", 12, 3, 2);
        refused(6, "heads", 12, 3, 1);
        // No such bottle and not rising are both 5; the bottle after the last is none.
        row(3, 2, 0, 12);
        refused(5, "heads", 12, 3, 2);
        row(3, 2, 0, 11);
        refused(6, "heads", 12, 3, 2);
        row(3, 2, 12, 0);
        refused(5, "heads", 12, 3, 2);
    }

    private static void promise32() {
        sentence("Promise 32", "Of heads() latest with STATUS 0, what 0: how many sets, 1, 3: MACHINE of the first, second HEAD of "
            + "the first one, 2, 4: its number (1; 6).", () -> {
            for (int what = 0; what < 5; what++) {
                refused(6, "head", what);
            }
            refused(1, "head", -1);
            refused(1, "head", 5);
            line(2, "machine a speed 1 heads 2;machine b speed 1 heads 3;");
            row(0, 1, 0, 2, 3, 4);
            refused(6, "heads", 6, 0, 2);
            refused(6, "head", 0);
            // a's head 0 and b's head 0.
            taken(2, "heads", 6, 0, 4);
            limits(0, 4, 0, "head", 0);
            taken(1, "head", 0);
            taken(0, "head", 1);
            taken(0, "head", 2);
            taken(1, "head", 3);
            taken(0, "head", 4);
            // What is refused later changes it not, and a LINE neither.
            refused(6, "heads", 6, 0, 2);
            refused(5, "heads", 4, 0, 4);
            line(0, "");
            taken(1, "head", 3);
            // One head: no second one; none: no first one.
            line(2, "machine a speed 1 heads 2;machine b speed 1 heads 3;");
            row(0, 1, 2, 5);
            taken(1, "heads", 6, 0, 2);
            taken(1, "head", 0);
            taken(1, "head", 1);
            taken(2, "head", 2);
            refused(6, "head", 3);
            refused(6, "head", 4);
            taken(0, "heads", 6, 0, 0);
            taken(1, "head", 0);
            refused(6, "head", 1);
            refused(6, "head", 2);
            refused(6, "head", 3);
            refused(6, "head", 4);
        });
    }

    private static void promise33() {
        sentence("Promise 33", "SHORT, so many weighed (1 to 60): how many are thrown (1: a most below the least, too; 2, 3, 5; in "
            + "this order).", () -> {
            full();
            row(3, 1, new long[60]);
            limits(0, 3, 0, "brief", 0, 3, 1, 0, 9);
            limits(1, 60, 1, "brief", 3, 1, 1, 0, 9);
            limits(1, 99, 2, "brief", 3, 1, 1, 0, 9);
            taken(60, "brief", 3, 60, 1, 5, 5);
            taken(1, "brief", 3, 1, 99, 5, 5);
            refused(1, "brief", 3, 60, 1, 5, 4);
            refused(1, "brief", 3, 60, 1, Integer.MAX_VALUE, Integer.MIN_VALUE);
            taken(0, "brief", 3, 60, 1, 0, 0);
            taken(0, "brief", 3, 60, 1, Integer.MIN_VALUE, Integer.MAX_VALUE);
            full();
            refused(1, "brief", 3, 0, 0, 1, 0);
            refused(1, "brief", 3, 9, 1, 1, 0);
            refused(2, "brief", 3, 9, 1, 0, 0);
            row(3, 2, -1_000, 5);
            refused(3, "brief", 3, 3, 1, 0, 9);
            refused(5, "brief", 3, 2, 1, 0, 9);
        });
    }

    private static void promise34() {
        sentence("Promise 34", "GLASS, so many couples: how many are thrown (1, 2, 3, 5: no such MACHINE, a bottle of none of 0 to "
            + "9,999; in this order).", () -> {
            full();
            row(0, 1, new long[40]);
            row(3, 1, new long[40]);
            limits(0, 3, 0, "glass", 0, 1);
            limits(1, 20, 1, "glass", 3, 1);
            full();
            refused(1, "glass", 3, 0);
            refused(1, "glass", 3, 21);
            refused(2, "glass", 3, 20);
            // A couple takes two numbers.
            row(3, 2, 3, 5, 0);
            refused(3, "glass", 3, 2);
            refused(5, "glass", 3, 1);
            glassOf(0, 0, 4);
            glassOf(2, 9_999, 3);
            glassNot(3, 0);
            glassNot(-1, 0);
            glassNot(0, -1);
            glassNot(0, 10_000);
            glassNot(1L << 32, 0);
            glassNot(0, 1L << 32);
            // The last of those asked for is looked at, and none behind it.
            rich();
            row(3, 1, 2, 5, 2, 6, 2, 10_000, 3, 0);
            taken(4, "glass", 3, 2);
            refused(5, "glass", 3, 3);
            row(3, 1, 2, 5, 3, 6);
            taken(3, "glass", 3, 1);
            refused(5, "glass", 3, 2);
            row(3, 1, 2, 5, 2, -1);
            taken(3, "glass", 3, 1);
            refused(5, "glass", 3, 2);
            // Without MACHINES there is no such one.
            line(0, "");
            row(3, 2, 0, 0);
            refused(5, "glass", 3, 1);
        });
    }

    private static void glassOf(long machine, long bottle, int thrown) {
        rich();
        row(3, 3, machine, bottle);
        taken(thrown, "glass", 3, 1);
    }

    private static void glassNot(long machine, long bottle) {
        rich();
        row(3, 3, machine, bottle);
        refused(5, "glass", 3, 1);
    }

    private static void promises35and36() {
        sentence("Promise 35", "ORDER: the WASH together (1: SORTS that there are not; the first is none of them).", () -> {
            full();
            limits(1, 7, 0, "order", 1, 0);
            limits(0, 2, 1, "order", 7, 0);
            refused(1, "order", 0, 0);
            refused(1, "order", 6, 0);
            refused(1, "order", 5, 1);
            refused(1, "order", 3, 2);
            refused(1, "order", 15, 0);
            refused(1, "order", 8, 3);
            refused(1, "order", 7, 31);
            refused(1, "order", 7, 32);
            taken(7, "order", 7, 0);
            taken(0, "order", 4, 2);
            fresh();
            refused(1, "order", 0, 0);
            refused(1, "order", 1, 0);
            line(0, "sort a;sort b;sort c;sort d;sort e;sort f;sort g;");
            taken(60, "order", 127, 6);
            refused(1, "order", 128, 6);
            refused(1, "order", 255, 7);
            limits(1, 127, 0, "order", 1, 0);
        });
        sentence("Promise 36", "The SORT at a place of it, by order() latest with STATUS 0 (1: below 0; 6).", () -> {
            refused(6, "ordered", 0);
            refused(1, "ordered", -1);
            refused(1, "order", 1, 0);
            refused(6, "ordered", 0);
            line(0, "sort a;sort b;sort c;");
            taken(20, "order", 7, 1);
            taken(1, "ordered", 0);
            taken(0, "ordered", 1);
            taken(2, "ordered", 2);
            refused(6, "ordered", 3);
            refused(6, "ordered", Integer.MAX_VALUE);
            refused(1, "ordered", -1);
            refused(1, "ordered", Integer.MIN_VALUE);
            refused(1, "order", 8, 0);
            taken(2, "ordered", 2);
            line(0, "");
            taken(2, "ordered", 2);
            line(0, "sort a;");
            taken(0, "order", 1, 0);
            taken(0, "ordered", 0);
            refused(6, "ordered", 1);
        });
    }

    private static void promise37() {
        sentence("Promise 37", "CLOSES: the first TABLE that does not; STATUS 0 also with NONE: all do (1, 2, 3, 5: below 0, above "
            + "1,000,000; in this order).", () -> {
            full();
            refused(1, "closes", -1);
            refused(1, "closes", 4);
            refused(1, "closes", Integer.MIN_VALUE);
            refused(1, "closes", Integer.MAX_VALUE);
            refused(2, "closes", 3);
            // Two TABLES: eight numbers.
            row(3, 2, -1, 0, 0, 0, 0, 0, 0);
            refused(3, "closes", 3);
            row(3, 2, 1, 0, 0, 0, 0, 0, 0, -1);
            refused(5, "closes", 3);
            row(3, 2, 1, 0, 0, 0, 0, 0, 0, 1_000_001);
            refused(5, "closes", 3);
            row(3, 2, 1_000_000, 0, 0, 1_000_000, 1_000_000, 1_000_000, 0, 0);
            taken(-1, "closes", 3);
            row(3, 2, 1_000_000, 1_000_000, 1_000_000, 1_000_000, 0, 0, 0, 0);
            taken(0, "closes", 3);
            row(3, 2, 0, 0, 0, 0, 0, 0, 0, 1);
            taken(1, "closes", 3);
            row(3, 2, 0, 0, 0, 0, 0, 0, 0, 0, -1);
            taken(-1, "closes", 3);
            // Sums do not wrap: in 64 bits neither is taken for the other.
            rich();
            row(3, 3, 0, Long.MAX_VALUE, Long.MAX_VALUE, 2, 0, 0, 0, 0);
            refused(5, "closes", 3);
            // Without TABLES no number is asked for, but the TRAY must be there.
            fresh();
            refused(2, "closes", 0);
            taken(1, "tray", 0, 0, 0);
            taken(-1, "closes", 0);
            refused(2, "closes", 3);
        });
    }

    private static void promise38() {
        sentence("Promise 38", "RECALL, bottles 0 to 9,999, what 0: how many CASES are SURE, 1: the first, 2: how many MAY BE, 3: "
            + "the first of these (1; for 3: 6: none).", () -> {
            full();
            limits(1, 99, 0, "recall", 10, 5, 5, 5, 5, 0);
            limits(0, 3, 5, "recall", 10, 50, 50, 5, 95, 0);
            // a: from c to b. b: from a to d. c: from 0 to a. d: from b to 9,999.
            limits(3, 7, 1, "recall", 10, 5, 7, 3, 9, 0);
            limits(5, 9, 2, "recall", 10, 5, 7, 3, 9, 0);
            limits(0, 5, 3, "recall", 10, 5, 7, 3, 9, 0);
            limits(7, 9_999, 4, "recall", 10, 5, 7, 3, 9, 0);
            limits(0, 9_999, 1, "recall", 10, 5, 9_999, 0, 9_999, 0);
            limits(0, 9_999, 2, "recall", 10, 0, 5, 0, 9_999, 0);
            taken(10_000, "recall", 1, 0, 9_999, 0, 9_999, 0);
            taken(0, "recall", 1, 0, 9_999, 0, 9_999, 1);
            taken(0, "recall", 1, 0, 9_999, 0, 9_999, 2);
            refused(6, "recall", 1, 0, 9_999, 0, 9_999, 3);
            taken(102, "recall", 99, 0, 9_999, 0, 9_999, 0);
            taken(1, "recall", 99, 0, 0, 0, 9_999, 0);
            taken(101, "recall", 99, 0, 0, 0, 9_999, 2);
            taken(1, "recall", 99, 0, 0, 0, 9_999, 3);
            taken(0, "recall", 99, 9_999, 9_999, 0, 9_999, 3);
            // None for 3 alone is refused with 6: the others are 0.
            taken(0, "recall", 10, 10, 19, 10, 19, 2);
            refused(6, "recall", 10, 10, 19, 10, 19, 3);
            taken(0, "recall", 10, 10, 19, 9, 19, 3);
            taken(2, "recall", 10, 10, 19, 10, 20, 3);
        });
    }

    private static void promises39and40() {
        sentence("Promise 39", "SHIFTS: how many (1, 2, 3, 5: longer than a shift, too; in this order).", () -> {
            full();
            row(3, 2, 1, 1, 1, 1, 1, 1, 1, 1);
            limits(0, 3, 0, "shifts", 1, 2, 9);
            limits(1, 8, 1, "shifts", 3, 1, 9);
            limits(1, 999, 2, "shifts", 3, 1, 9);
            full();
            refused(1, "shifts", 3, 9, 0);
            refused(2, "shifts", 3, 8, 9);
            row(3, 2, 10, 5);
            refused(3, "shifts", 3, 3, 9);
            refused(5, "shifts", 3, 2, 9);
            taken(2, "shifts", 3, 2, 10);
            taken(1, "shifts", 3, 1, 10);
            taken(1, "shifts", 3, 2, 15);
            taken(2, "shifts", 3, 2, 14);
            row(3, 2, 0);
            refused(5, "shifts", 3, 1, 9);
            row(3, 2, 1);
            taken(1, "shifts", 3, 1, 1);
            row(3, 2, 999);
            taken(1, "shifts", 3, 1, 999);
            refused(5, "shifts", 3, 1, 998);
            row(3, 3, (1L << 32) + 1);
            refused(5, "shifts", 3, 1, 999);
        });
        sentence("Promise 40", "The shift of a repair by shifts() latest with STATUS 0 (1: below 0; 6).", () -> {
            refused(6, "shiftOf", 0);
            refused(1, "shiftOf", -1);
            row(0, 2, 5, 6, 5, 6, 9, 9, 9, 9);
            refused(5, "shifts", 0, 8, 8);
            refused(6, "shiftOf", 0);
            taken(7, "shifts", 0, 8, 10);
            int[] due = {0, 1, 0, 2, 3, 4, 5, 6};
            for (int k = 0; k < 8; k++) {
                taken(due[k], "shiftOf", k);
            }
            refused(6, "shiftOf", 8);
            refused(6, "shiftOf", Integer.MAX_VALUE);
            refused(1, "shiftOf", -1);
            refused(1, "shiftOf", Integer.MIN_VALUE);
            refused(1, "shifts", 0, 9, 10);
            taken(6, "shiftOf", 7);
            taken(1, "shifts", 0, 1, 10);
            taken(0, "shiftOf", 0);
            refused(6, "shiftOf", 1);
        });
    }

    private static void promise41() {
        sentence("Promise 41", "The LOT of a bottle (0 to 9,999), so many LOTS (1, 2, 3, 5: not rising, none of 0 to 9,999; 6: it is "
            + "ahead of all; in this order).", () -> {
            full();
            long[] thirty = new long[30];
            for (int k = 0; k < 30; k++) {
                thirty[k] = k;
            }
            row(0, 1, thirty);
            row(3, 1, thirty);
            limits(0, 3, 0, "lot", 0, 1, 9);
            limits(1, 30, 1, "lot", 3, 1, 9);
            limits(0, 9_999, 2, "lot", 3, 30, 9);
            taken(0, "lot", 3, 30, 0);
            taken(29, "lot", 3, 30, 29);
            taken(29, "lot", 3, 30, 9_999);
            full();
            refused(1, "lot", 3, 31, 0);
            refused(1, "lot", 3, 1, 10_000);
            refused(2, "lot", 3, 30, 0);
            row(3, 2, 5, 5, 10_000);
            refused(3, "lot", 3, 4, 0);
            refused(5, "lot", 3, 3, 0);
            refused(5, "lot", 3, 2, 0);
            refused(6, "lot", 3, 1, 4);
            taken(0, "lot", 3, 1, 5);
            row(3, 2, 0, 9_999);
            taken(0, "lot", 3, 2, 9_998);
            taken(1, "lot", 3, 2, 9_999);
            row(3, 2, 0, 10_000);
            refused(5, "lot", 3, 2, 9_999);
            row(3, 2, -1, 5);
            refused(5, "lot", 3, 2, 9);
            row(3, 3, 5, (1L << 32) + 6);
            refused(5, "lot", 3, 2, 9);
            row(3, 3, Long.MAX_VALUE, Long.MIN_VALUE);
            refused(5, "lot", 3, 2, 9);
        });
    }

    private static void promise42() {
        sentence("Promise 42", "The FRACTION is TORN, so many minutes, all together (0 to 9,999) (1, 2, 3, 5; 6: none is torn, or it "
            + "can't be: the rest is more than all, or torn ones would be more than 99 each; in this order).", () -> {
            full();
            row(0, 1, -1, 5);
            row(3, 1, -1, 5);
            limits(0, 3, 0, "torn", 0, 2, 30);
            long[] sixty = new long[60];
            Arrays.fill(sixty, -1);
            row(3, 1, sixty);
            limits(1, 60, 1, "torn", 3, 1, 50);
            // No sixty minutes have as many as 9,999, but it is a number that can be.
            refused(1, "torn", 3, 60, -1);
            taken(1, "torn", 3, 60, 0);
            refused(6, "torn", 3, 60, 9_999);
            refused(1, "torn", 3, 60, 10_000);
            refused(1, "torn", 3, 60, Integer.MIN_VALUE);
            refused(1, "torn", 3, 60, Integer.MAX_VALUE);
            full();
            refused(1, "torn", 3, 61, 0);
            refused(1, "torn", 3, 60, 10_000);
            refused(2, "torn", 3, 60, 9_999);
            row(3, 1, 100, 5);
            refused(3, "torn", 3, 3, 0);
            refused(5, "torn", 3, 2, 0);
        });
        sentence("Promise 42", "6: none is torn, or it can't be: the rest is more than all, or torn ones would be more than 99 "
            + "each", () -> {
            full();
            row(3, 1, 99, 0);
            refused(6, "torn", 3, 2, 99);
            refused(6, "torn", 3, 2, 0);
            refused(6, "torn", 3, 2, 9_999);
            row(3, 1, 99, -1);
            taken(1, "torn", 3, 2, 99);
            fraction(0, 1);
            refused(6, "torn", 3, 2, 98);
            refused(6, "torn", 3, 2, 0);
            taken(1, "torn", 3, 2, 198);
            fraction(99, 1);
            refused(6, "torn", 3, 2, 199);
            refused(6, "torn", 3, 2, 9_999);
            row(3, 1, -1, -1);
            taken(1, "torn", 3, 2, 0);
            fraction(0, 1);
            taken(1, "torn", 3, 2, 198);
            taken(1, "torn", 3, 2, 197);
            fraction(197, 2);
            refused(6, "torn", 3, 2, 199);
        });
    }

    private static void promises43and44() {
        sentence("Promise 43", "A MARK more: how many there are (4).", () -> {
            taken(1, "mark");
            taken(2, "mark");
            taken(3, "mark");
            refused(4, "mark");
            full();
            taken(2, "mark");
            taken(3, "mark");
            refused(4, "mark");
            taken(2, "back");
            taken(3, "mark");
            refused(4, "mark");
            // It changes nothing else.
            full();
            keeps(Witness.allBut(Witness.MARKS), 2, "mark");
        });
        sentence("Promise 44", "All is taken back to the latest MARK: how many there are left (6).", () -> {
            refused(6, "back");
            taken(1, "mark");
            taken(0, "back");
            refused(6, "back");
            // A mark and back at once changes nothing at all.
            full();
            taken(2, "mark");
            keeps(Witness.allBut(Witness.MARKS), 1, "back");
            // Trays, tape, fraction, faults and latest results are no part of it.
            taken(2, "mark");
            taken(1, "tray", 0, 0, 1);
            taken(1, "torn", 2, 3, 24);
            taken(0, "order", 1, 0);
            taken(40, "feed", 0, 0, 0, 0, 0);
            keeps(Witness.allBut(Witness.MARKS), 1, "back");
            taken(0, "back");
            refused(6, "back");
            fraction(2, 1);
        });
    }
}
