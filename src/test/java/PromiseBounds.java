/** The edges named in promises 1 to 30: a new object, TRAYS, the LINE, MINUTES. */
final class PromiseBounds extends Bounds {
    private PromiseBounds() {
    }

    static void all() {
        promises1to4();
        promises5to7();
        promise8();
        promise9();
        promises10and11();
        promise12();
        promises13and14();
        promises15and16();
        promises17and18();
        promises19to21();
        promises22to24();
        promises25and26();
        promises27and28();
        promises29and30();
    }

    private static void promises1to4() {
        sentence("Promise 1", "No MACHINES, SORTS, no SHIFT, MARKS; TRAYS are MISSING; an empty tape; the FRACTION 0 by 1; "
            + "STATUS 0.", () -> {
            status(0);
            fraction(0, 1);
            status(0);
            taken(0, "many", 0);
            taken(0, "many", 1);
            taken(0, "many", 2);
            taken(0, "many", 3);
            taken(0, "work");
            fresh();
            refused(6, "back");
            taken(1, "mark");
            fresh();
            for (int tray = 0; tray < 4; tray++) {
                refused(2, "read", tray, 0);
            }
            refused(1, "line", 1);
            refused(1, "shift", 1);
            taken(20, "feed", 0, 0, 0, 0, 0);
            fresh();
            taken(0, "line", 0);
            fresh();
            taken(0, "shift", 0);
            // With no MACHINE, TABLE or SORT there is none of these to ask for.
            refused(1, "machine", 0, 0);
            refused(1, "table", 0, 0);
            refused(1, "wash", 0, 1);
            refused(1, "order", 0, 0);
            refused(1, "order", 1, 0);
        });
        sentence("Promise 2", "STATUS of the latest call that has one.", () -> {
            status(0);
            refused(2, "read", 0, 0);
            status(2);
            status(2);
            taken(20, "feed", 0, 0, 0, 0, 0);
            taken(-1, "fault", 0);
            fraction(0, 1);
            status(2);
            refused(1, "read", 4, 0);
            status(1);
            taken(1, "tray", 0, 0, 1);
            status(0);
            givesNone("line", 1);
            status(9);
            taken(-1, "closes", 0);
        });
        sentence("Promise 3", "The top of the FRACTION told latest.", () -> {
            taken(0, "top");
            row(0, 1, -1, -1);
            taken(1, "torn", 0, 2, 7);
            taken(7, "top");
            taken(1, "torn", 0, 2, 0);
            taken(0, "top");
            taken(1, "torn", 0, 2, 198);
            taken(99, "top");
            refused(6, "torn", 0, 2, 199);
            refused(1, "share", 0);
            taken(99, "top");
        });
        sentence("Promise 4", "Its bottom, above 0.", () -> {
            taken(1, "bottom");
            row(0, 1, -1, -1);
            taken(1, "torn", 0, 2, 7);
            taken(2, "bottom");
            taken(1, "torn", 0, 2, 0);
            taken(1, "bottom");
            taken(1, "torn", 0, 2, 9);
            refused(6, "torn", 0, 2, 199);
            taken(2, "bottom");
            line(1, "machine a speed 1;");
            refused(6, "share", 0);
            taken(2, "bottom");
        });
    }

    private static void promises5to7() {
        sentence("Promise 5", "A TRAY is a row of so many 0s (1).", () -> {
            full();
            row(3, 0, 1);
            limits(0, 3, 0, "tray", 0, 0, 0);
            limits(0, 3, 1, "tray", 0, 0, 0);
            limits(0, 60, 2, "tray", 0, 0, 0);
            // Made anew it is all 0s, also where numbers lay in a longer one.
            row(3, 3, 7, 7, 7, 7, 7);
            taken(1, "tray", 3, 3, 2);
            holds(3, 0, 0);
            taken(1, "tray", 3, 3, 5);
            holds(3, 0, 0, 0, 0, 0);
            taken(1, "tray", 3, 0, 0);
            holds(3);
            // The others stay.
            holds(0, 1, 5, 9);
        });
        sentence("Promise 6", "A number comes to a place of a TRAY, cut to its sort (1, 2, 3).", () -> {
            full();
            refused(1, "write", -1, 0, 7);
            refused(1, "write", 4, 0, 7);
            refused(1, "write", Integer.MIN_VALUE, 0, 7);
            refused(1, "write", Integer.MAX_VALUE, 0, 7);
            refused(2, "write", 3, 0, 7);
            refused(3, "write", 2, -1, 7);
            refused(3, "write", 2, 3, 7);
            taken(1, "write", 2, 0, 128);
            taken(1, "write", 2, 2, -129);
            holds(2, -128, -1, 127);
            taken(1, "write", 2, 1, 256);
            holds(2, -128, 0, 127);
            row(3, 1, 32_768, -32_769, 65_535, 65_536);
            holds(3, -32_768, 32_767, -1, 0);
            row(3, 2, 1L << 31, -(1L << 31) - 1, (1L << 32) - 1, 1L << 32);
            holds(3, -(1L << 31), (1L << 31) - 1, -1, 0);
            row(3, 3, Long.MAX_VALUE, Long.MIN_VALUE);
            holds(3, Long.MAX_VALUE, Long.MIN_VALUE);
        });
        sentence("Promise 7", "The number in a place of a TRAY; STATUS tells NONE from -1 (1, 2, 3).", () -> {
            full();
            taken(-1, "read", 2, 2);
            refused(3, "read", 2, 3);
            refused(3, "read", 2, -1);
            refused(2, "read", 3, 0);
            refused(1, "read", 4, 0);
            refused(1, "read", -1, 0);
            taken(20, "read", 2, 0);
            row(3, 3, -1);
            taken(-1, "read", 3, 0);
        });
    }

    private static void promise8() {
        sentence("Promise 8", "So many numbers of a TRAY, from a place on, come to another one's (or its own) place on, as "
            + "they were (1: below 0, too; 2; 8; 3; asked in this order).", () -> {
            full();
            row(3, 3, 10, 20, 30, 40);
            refused(1, "pour", -1, 0, 3, 0, 1);
            refused(1, "pour", 4, 0, 3, 0, 1);
            refused(1, "pour", 0, 0, -1, 0, 1);
            refused(1, "pour", 0, 0, 4, 0, 1);
            refused(1, "pour", 0, -1, 3, 0, 1);
            refused(1, "pour", 0, 0, 3, -1, 1);
            refused(1, "pour", 0, 0, 3, 0, -1);
            refused(1, "pour", 0, 0, 3, 0, Integer.MIN_VALUE);
            // The last that fits, and one more, on either side.
            refused(3, "pour", 0, 0, 3, 0, 4);
            refused(3, "pour", 0, 1, 3, 0, 3);
            refused(3, "pour", 3, 0, 0, 1, 3);
            refused(3, "pour", 3, 2, 0, 0, 3);
            refused(3, "pour", 0, 4, 3, 0, 0);
            refused(3, "pour", 0, 0, 3, 5, 0);
            refused(3, "pour", 0, Integer.MAX_VALUE, 3, 0, Integer.MAX_VALUE);
            refused(3, "pour", 0, 0, 3, Integer.MAX_VALUE, 1);
            refused(3, "pour", 0, 1, 3, 1, Integer.MAX_VALUE);
            keeps(Witness.all(), 1, "pour", 0, 0, 3, 0, 0);
            keeps(Witness.all(), 1, "pour", 0, 3, 3, 4, 0);
            taken(1, "pour", 0, 0, 3, 1, 3);
            holds(3, 10, 1, 5, 9);
            // Its own place, as they were: over each other to both sides.
            taken(1, "pour", 3, 0, 3, 1, 3);
            holds(3, 10, 10, 1, 5);
            taken(1, "pour", 3, 1, 3, 0, 3);
            holds(3, 10, 1, 5, 5);
            taken(1, "pour", 3, 0, 3, 0, 4);
            holds(3, 10, 1, 5, 5);
            holds(0, 1, 5, 9);
            pourInOrder();
        });
    }

    private static void pourInOrder() {
        full();
        refused(1, "pour", 3, -1, 1, 0, 99);
        refused(2, "pour", 3, 0, 1, 0, 99);
        refused(8, "pour", 0, 0, 1, 0, 99);
        refused(3, "pour", 0, 0, 0, 0, 99);
        // Sixty at once.
        rich();
        taken(1, "tray", 3, 0, 60);
        taken(1, "write", 3, 59, 5);
        taken(1, "tray", 0, 0, 60);
        taken(1, "pour", 3, 0, 0, 0, 60);
        taken(5, "read", 0, 59);
        refused(3, "pour", 3, 0, 0, 0, 61);
        refused(3, "pour", 3, 0, 0, 1, 60);
    }

    private static void promise9() {
        sentence("Promise 9", "Twenty bytes come behind those on the tape, the highest of each int first: how many it has; "
            + "NONE if there would be more than 700.", () -> {
            // "sort abcdefg; sort b;"
            taken(20, "feed", 0x736f7274, 0x20616263, 0x64656667, 0x3b736f72, 0x7420623b);
            taken(0, "line", 20);
            taken(2, "many", 1);
            rich();
            for (int k = 1; k <= 35; k++) {
                taken(20 * k, "feed", 0x20202020, 0x20202020, 0x20202020, 0x20202020, k == 35 ? 0x2020613b : 0x20202020);
            }
            refusedFeed();
            refusedFeed();
            // Nothing of the 36th came: the bytes up to 700 are as they were.
            givesNone("line", 700);
            status(9);
            taken(2, "fault", 0);
            taken(698, "fault", 1);
            taken(20, "feed", 0, 0, 0, 0, 0);
            // A byte above 127 is that byte, not a sign of the others: the place of each can be told.
            fresh();
            taken(20, "feed", 0x20202020, 0x202020ff, 0, 0, 0);
            givesNone("line", 20);
            taken(7, "fault", 1);
            fresh();
            taken(20, "feed", 0x2020ff20, 0x80000000, 0, 0, 0);
            givesNone("line", 20);
            taken(2, "fault", 1);
            fresh();
            taken(20, "feed", 0x20202020, Integer.MIN_VALUE, 0, 0, 0);
            givesNone("line", 20);
            taken(4, "fault", 1);
        });
    }

    private static void promises10and11() {
        sentence("Promise 10", "The first n bytes of the tape (which is empty then) are the LINE: how many MACHINES (1: n below "
            + "0, or more than the tape has, too; 9: the old one stays).", () -> {
            full();
            refused(1, "line", -1);
            refused(1, "line", Integer.MIN_VALUE);
            refused(1, "line", 21);
            refused(1, "line", Integer.MAX_VALUE);
            // The first n alone: behind the tenth there are zeros on the tape.
            taken(0, "line", 10);
            taken(1, "many", 1);
            refused(1, "line", 1);
            taken(20, "feed", 0x20202020, 0x20202020, 0x20202020, 0x20202020, 0x20202020);
            taken(0, "line", 20);
            // None of a full tape is the empty LINE, and the tape is empty then, too.
            full();
            taken(0, "line", 0);
            taken(0, "many", 0);
            refused(1, "line", 1);
            rich();
            lineFault(2, "machine z speed 1;machine^");
            taken(3, "many", 0);
            line(6, "machine a speed 1;machine b speed 1;machine c speed 1;machine d speed 1;machine e speed 1;"
                + "machine f speed 1;");
        });
        sentence("Promise 11", "Likewise the SHIFT: how many STEPS (1: above 300, too; 9).", () -> {
            full();
            refused(1, "shift", -1);
            refused(1, "shift", Integer.MIN_VALUE);
            refused(1, "shift", 21);
            refused(1, "shift", Integer.MAX_VALUE);
            rich();
            lay(" ".repeat(320));
            refused(1, "shift", 301);
            refused(1, "shift", 320);
            taken(0, "shift", 300);
            refused(1, "shift", 1);
            full();
            taken(0, "shift", 0);
            refused(1, "shift", 1);
            taken(0, "work");
            rich();
            shiftFault(4, "run 1;run ^61;");
            taken(5, "work");
            shift(30, "mend a;".repeat(30));
        });
    }

    private static void promise12() {
        sentence("Promise 12", "Of the latest line() or shift() with STATUS 0 or 9, what 0: the FAULT (0 without one), 1: its "
            + "place (NONE without). NONE for others, and ahead of any.", () -> {
            taken(-1, "fault", 0);
            taken(-1, "fault", 1);
            taken(-1, "fault", 2);
            taken(-1, "fault", -1);
            // One with STATUS 1 is none of these.
            refused(1, "line", 1);
            refused(1, "shift", 1);
            taken(-1, "fault", 0);
            taken(0, "line", 0);
            taken(0, "fault", 0);
            taken(-1, "fault", 1);
            taken(-1, "fault", 2);
            taken(-1, "fault", -1);
            taken(-1, "fault", Integer.MIN_VALUE);
            taken(-1, "fault", Integer.MAX_VALUE);
            lay("!");
            givesNone("shift", 1);
            taken(1, "fault", 0);
            taken(0, "fault", 1);
            taken(-1, "fault", 2);
            refused(1, "line", 1);
            refused(1, "shift", -1);
            taken(1, "fault", 0);
            taken(0, "fault", 1);
            lay("machine");
            givesNone("line", 7);
            taken(2, "fault", 0);
            taken(7, "fault", 1);
            taken(0, "shift", 0);
            taken(0, "fault", 0);
            taken(-1, "fault", 1);
            // The farthest place: the end of a full tape.
            lay(" ".repeat(695) + "table");
            givesNone("line", 700);
            taken(5, "fault", 0);
            taken(695, "fault", 1);
            lay(" ".repeat(696) + "sort");
            givesNone("line", 700);
            taken(2, "fault", 0);
            taken(700, "fault", 1);
        });
    }

    private static void promises13and14() {
        sentence("Promise 13", "How many MACHINES (what 0), SORTS (1), MINUTES since it was BEGUN (2), bottles MADE (3) (1).", () -> {
            full();
            limits(0, 3, 0, "many", 0);
            taken(3, "many", 0);
            taken(3, "many", 1);
            taken(13, "many", 2);
            taken(1, "begin", 3);
            taken(0, "many", 2);
            taken(0, "many", 3);
            status0("run", 600);
            taken(600, "many", 2);
        });
        sentence("Promise 14", "Of a MACHINE, what 0: SPEED, 1: HEADS, 2: STOPS, 3: how long they last (0 without), 4: minutes to "
            + "stand, 5: how it was in the latest MINUTE (0 WORKS, 1 STARVED, 2 BLOCKED, 3 STOPPED; 6: there was none), 6: "
            + "bottles (1).", () -> {
            full();
            limits(0, 2, 0, "machine", 0, 0);
            limits(0, 6, 1, "machine", 0, 0);
            taken(1, "begin", 0);
            refused(6, "machine", 0, 5);
            refused(6, "machine", 2, 5);
            refused(1, "machine", 3, 5);
            fresh();
            line(3, "machine a speed 9 heads 3 stops 64 lasts 5;table 0;machine b speed 1;table 0;machine c speed 8;");
            taken(0, "machine", 1, 3);
            taken(5, "machine", 0, 3);
            taken(0, "run", 1);
            taken(9, "machine", 0, 0);
            taken(3, "machine", 0, 1);
            taken(64, "machine", 0, 2);
            taken(4, "machine", 0, 4);
            taken(3, "machine", 0, 5);
            taken(1, "machine", 1, 5);
            taken(1, "machine", 2, 5);
            taken(0, "machine", 2, 6);
            line(2, "machine a speed 9;table 0;machine b speed 1;");
            taken(0, "run", 1);
            taken(2, "machine", 0, 5);
            line(1, "machine a speed 9;");
            taken(9, "run", 1);
            taken(0, "machine", 0, 5);
            taken(9, "machine", 0, 6);
        });
    }

    private static void promises15and16() {
        sentence("Promise 15", "Of a TABLE, what 0: room for how many, 1: how many lie there (1).", () -> {
            full();
            limits(0, 1, 0, "table", 0, 0);
            limits(0, 1, 1, "table", 0, 0);
            fresh();
            line(2, "machine a speed 9;table 20;machine b speed 1 stops 64 lasts 1;");
            taken(20, "table", 0, 0);
            taken(0, "table", 0, 1);
            taken(0, "run", 9);
            taken(20, "table", 0, 1);
            line(1, "machine a speed 9;table 20;");
            refused(1, "table", 0, 0);
            refused(1, "table", 0, 1);
        });
        sentence("Promise 16", "WASH from a SORT to another one (1: to itself, too).", () -> {
            full();
            limits(0, 1, 0, "wash", 0, 2);
            limits(1, 2, 1, "wash", 0, 1);
            for (int sort = -1; sort < 4; sort++) {
                refused(1, "wash", sort, sort);
            }
            taken(5, "wash", 0, 1);
            taken(10, "wash", 1, 0);
            taken(2, "wash", 1, 2);
            fresh();
            line(0, "sort a;");
            refused(1, "wash", 0, 0);
            refused(1, "wash", 0, 1);
        });
    }

    private static void promises17and18() {
        sentence("Promise 17", "BEGUN (1).", () -> {
            full();
            limits(0, 9_999, 0, "begin", 0);
            // Without MACHINES, too.
            fresh();
            limits(0, 9_999, 0, "begin", 0);
            taken(1, "begin", 9_999);
            taken(0, "many", 2);
        });
        sentence("Promise 18", "So many MINUTES (1 to 600): bottles MADE in them (1; 6: no MACHINE).", () -> {
            refused(6, "run", 1);
            refused(6, "run", 600);
            refused(1, "run", 0);
            refused(1, "run", 601);
            full();
            limits(1, 600, 0, "run", 1);
            fresh();
            line(1, "machine a speed 99;");
            taken(99, "run", 1);
            taken(59_400, "run", 600);
            taken(601, "many", 2);
            taken(59_499, "many", 3);
            taken(1, "begin", 0);
            taken(99, "run", 1);
        });
    }

    private static void promises19to21() {
        sentence("Promise 19", "Minutes of a MACHINE: WORKS (0) to STOPPED (3) (1).", () -> {
            refused(1, "minutes", 0, 0);
            full();
            limits(0, 2, 0, "minutes", 0, 0);
            limits(0, 3, 1, "minutes", 0, 0);
            taken(1, "begin", 0);
            taken(0, "minutes", 0, 0);
            taken(0, "minutes", 2, 3);
        });
        sentence("Promise 20", "How many minutes a MACHINE has BLAMED another one (1).", () -> {
            refused(1, "blame", 0, 0);
            full();
            limits(0, 2, 0, "blame", 0, 1);
            limits(0, 2, 1, "blame", 1, 0);
            fresh();
            line(2, "machine a speed 5;table 0;machine b speed 5;");
            taken(0, "run", 600);
            taken(600, "blame", 0, 1);
            taken(600, "blame", 1, 0);
            taken(0, "blame", 0, 0);
            taken(0, "blame", 1, 1);
        });
        sentence("Promise 21", "The FRACTION is minutes in which a MACHINE WORKS by all (1; 6: no MINUTE).", () -> {
            refused(1, "share", 0);
            full();
            limits(0, 2, 0, "share", 0);
            taken(1, "begin", 0);
            refused(6, "share", 0);
            refused(6, "share", 2);
            refused(1, "share", 3);
            refused(1, "share", -1);
            status0("run", 1);
            taken(1, "share", 2);
            fraction(0, 1);
            fresh();
            line(2, "machine a speed 5;table 99;machine b speed 5;");
            taken(0, "run", 1);
            taken(1, "share", 0);
            fraction(1, 1);
            taken(1, "share", 1);
            fraction(0, 1);
            taken(2_995, "run", 599);
            taken(1, "share", 1);
            fraction(599, 600);
            taken(1, "share", 0);
            fraction(1, 1);
        });
    }

    private static void promises22to24() {
        sentence("Promise 22", "TRIED, a SPEED (1 to 99), minutes 1 to 600 (1).", () -> {
            refused(1, "tried", 0, 1, 1);
            full();
            limits(0, 2, 0, "tried", 0, 1, 1);
            limits(1, 99, 1, "tried", 0, 1, 1);
            limits(1, 600, 2, "tried", 0, 1, 1);
            fresh();
            line(1, "machine a speed 5;");
            taken(1, "tried", 0, 1, 1);
            taken(99, "tried", 0, 99, 1);
            taken(59_400, "tried", 0, 99, 600);
        });
        sentence("Promise 23", "HOLDER (1; 6: no MACHINE).", () -> {
            refused(6, "holder", 1, 1);
            refused(6, "holder", 20, 600);
            refused(1, "holder", 0, 1);
            refused(1, "holder", 1, 601);
            full();
            limits(1, 20, 0, "holder", 1, 1);
            limits(1, 600, 1, "holder", 1, 1);
            fresh();
            line(1, "machine a speed 5;");
            taken(0, "holder", 1, 1);
            taken(1, "gained");
            taken(0, "holder", 20, 600);
            taken(12_000, "gained");
        });
        sentence("Promise 24", "How many more than with SPEEDS as they are, by holder() latest with STATUS 0 (below 0: fewer); "
            + "STATUS tells NONE from -1 (6).", () -> {
            refused(6, "gained");
            refused(6, "holder", 1, 1);
            refused(1, "holder", 0, 1);
            refused(6, "gained");
            line(1, "machine a speed 5;");
            refused(6, "gained");
            taken(0, "holder", 3, 2);
            taken(6, "gained");
            refused(1, "holder", 21, 2);
            taken(6, "gained");
            // It stays, whatever comes of the LINE.
            status0("run", 5);
            line(0, "");
            refused(6, "holder", 1, 1);
            taken(6, "gained");
            line(1, "machine a speed 99;");
            taken(0, "holder", 20, 600);
            taken(0, "gained");
        });
    }

    private static void promises25and26() {
        sentence("Promise 25", "SHARED: how many are MADE (1: minutes 1 to 200; 6: fewer than two MACHINES).", () -> {
            refused(6, "shared", 0, 1, 1);
            refused(6, "shared", 8, 99, 200);
            refused(1, "shared", 0, 1, 201);
            line(1, "machine a speed 5;");
            refused(6, "shared", 0, 1, 1);
            refused(1, "shared", 0, 1, 0);
            refused(1, "shared", 9, 1, 1);
            line(2, "machine a speed 5;machine b speed 5;");
            taken(0, "shared", 0, 1, 1);
            taken(995, "shared", 8, 99, 200);
            full();
            limits(0, 8, 0, "shared", 1, 1, 1);
            limits(1, 99, 1, "shared", 1, 1, 1);
            limits(1, 200, 2, "shared", 1, 1, 1);
            fresh();
            line(6, "machine a speed 1;machine b speed 1;machine c speed 1;machine d speed 1;machine e speed 1;"
                + "machine f speed 1;");
            taken(195, "shared", 8, 99, 200);
        });
        sentence("Promise 26", "Units of a TABLE by shared() latest with STATUS 0 (6: there was none, asked first; 1: no such "
            + "TABLE then).", () -> {
            refused(6, "unit", 0);
            refused(6, "unit", -1);
            refused(6, "unit", 9);
            refused(6, "shared", 1, 1, 1);
            refused(6, "unit", 0);
            line(3, "machine a speed 1;machine b speed 1;machine c speed 1;");
            refused(1, "shared", 9, 1, 1);
            refused(6, "unit", 0);
            taken(7, "shared", 8, 1, 9);
            limits(0, 1, 0, "unit", 0);
            taken(1, "unit", 0);
            taken(7, "unit", 1);
            refused(1, "shared", 9, 1, 1);
            taken(7, "unit", 1);
            // Then: the TABLES there were at that time.
            line(0, "");
            taken(7, "unit", 1);
            refused(1, "unit", 2);
            line(4, "machine a speed 1;machine b speed 1;machine c speed 1;machine d speed 1;");
            refused(1, "unit", 2);
            taken(6, "shared", 8, 1, 9);
            taken(6, "unit", 2);
            refused(1, "unit", 3);
            line(2, "machine a speed 1;machine b speed 1;");
            taken(8, "shared", 1, 1, 9);
            taken(1, "unit", 0);
            refused(1, "unit", 1);
        });
    }

    private static void promises27and28() {
        sentence("Promise 27", "WAITS, minutes 1 to 600 (1).", () -> {
            refused(1, "waits", 0, 0, 1);
            full();
            limits(0, 2, 0, "waits", 0, 0, 1);
            limits(0, 20, 1, "waits", 0, 0, 1);
            limits(1, 600, 2, "waits", 0, 0, 1);
            fresh();
            line(2, "machine a speed 5;table 0;machine b speed 5;");
            taken(1, "waits", 0, 0, 1);
            taken(600, "waits", 0, 0, 600);
            taken(600, "waits", 1, 20, 600);
            // Alone it has none to wait for, and stopped it does not wait.
            line(1, "machine a speed 5;");
            taken(0, "waits", 0, 20, 600);
            line(2, "machine a speed 5;machine b speed 5 stops 64 lasts 1;");
            taken(0, "waits", 1, 0, 600);
        });
        sentence("Promise 28", "UNWAITED, minutes 1 to 200 (1; 6: not by 20).", () -> {
            refused(1, "unwaited", 0, 1);
            fresh();
            line(1, "machine a speed 5;");
            limits(0, 0, 0, "unwaited", 0, 1);
            limits(1, 200, 1, "unwaited", 0, 1);
            taken(0, "unwaited", 0, 1);
            taken(0, "unwaited", 0, 200);
            // The table is full and holds as many as the first lays; the last takes five, and 20 more.
            line(2, "machine a speed 25;table 25;machine b speed 5;");
            status0("run", 9);
            taken(20, "unwaited", 0, 1);
            taken(20, "unwaited", 0, 200);
            line(2, "machine a speed 26;table 26;machine b speed 5;");
            status0("run", 9);
            refused(6, "unwaited", 0, 1);
            refused(6, "unwaited", 0, 200);
            refused(1, "unwaited", 0, 201);
            refused(1, "unwaited", 2, 200);
        });
    }

    private static void promises29and30() {
        sentence("Promise 29", "The SHIFT is done: how many STEPS were done.", () -> {
            taken(0, "work");
            shift(30, "mend a;".repeat(30));
            taken(30, "work");
            shift(4, "loop 9;loop 9;loop 9;mend a;end;end;end;");
            taken(100, "work");
            shift(1, "run 1;");
            taken(1, "work");
            taken(1, "work");
            taken(2, "many", 2);
        });
        sentence("Promise 30", "Of work() latest, what 0: MINUTES done, 1: bottles MADE in them, 2: 1 if a STEP was left to be "
            + "done, or a run was cut, else 0 (1; 6: there was none).", () -> {
            refused(6, "worked", 0);
            refused(6, "worked", 2);
            refused(1, "worked", -1);
            refused(1, "worked", 3);
            taken(0, "work");
            limits(0, 2, 0, "worked", 0);
            taken(0, "worked", 0);
            taken(0, "worked", 1);
            taken(0, "worked", 2);
            line(1, "machine a speed 3;");
            taken(30, "run", 10);
            shift(1, "run 60;");
            taken(1, "work");
            taken(60, "worked", 0);
            taken(180, "worked", 1);
            taken(0, "worked", 2);
            // A run that is cut, with no STEP left.
            shift(5, "loop 9;run 60;end;loop 7;run 60;end;run 41;");
            taken(19, "work");
            taken(1_000, "worked", 0);
            taken(3_000, "worked", 1);
            taken(1, "worked", 2);
            // A STEP that is left, with no run cut.
            shift(4, "loop 9;loop 9;loop 9;run 1;end;end;end;");
            taken(100, "work");
            taken(87, "worked", 0);
            taken(1, "worked", 2);
            // Of the latest alone; RUN and a new LINE do not change it.
            shift(1, "run 2;");
            taken(1, "work");
            status0("run", 7);
            line(0, "");
            taken(2, "worked", 0);
            taken(6, "worked", 1);
            taken(0, "worked", 2);
        });
    }
}
