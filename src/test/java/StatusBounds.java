/** The edges named in ==== 5.: which STATUS a call has, and that a refused one changes nothing else. */
final class StatusBounds extends Bounds {
    private static final String SECTION = "==== 5.";

    private StatusBounds() {
    }

    static void all() {
        first();
        numbers();
        trays();
        others();
        faults();
        nothingElse();
        withoutStatus();
    }

    private static void first() {
        sentence(SECTION, "STATUS of a call is the first of these that holds", () -> {
            // 1 ahead of 2, of 3, of 5, of 6.
            refused(1, "write", 4, -1, 0);
            refused(1, "heads", 0, 0, 0);
            refused(1, "run", 0);
            refused(1, "holder", 0, 1);
            refused(1, "shared", 9, 1, 1);
            refused(1, "worked", 3);
            refused(1, "head", 5);
            refused(1, "ordered", -1);
            refused(1, "shiftOf", -1);
            // 2 ahead of 3.
            refused(2, "write", 0, -1, 0);
            refused(2, "read", 0, 60);
            refused(2, "brief", 0, 60, 1, 0, 0);
            rich();
            refused(1, "share", 3);
            refused(1, "lot", 0, 31, 0);
            // 3 ahead of 5, and of 6: too few numbers, of which some can't be.
            row(3, 2, -5, -5);
            refused(3, "heads", 9, 3, 3);
            refused(3, "brief", 3, 3, 1, 0, 0);
            refused(3, "glass", 3, 2);
            refused(3, "closes", 3);
            refused(3, "shifts", 3, 3, 9);
            refused(3, "lot", 3, 3, 0);
            refused(3, "torn", 3, 3, 0);
            // 5 ahead of 6.
            refused(5, "heads", 9, 3, 2);
            refused(5, "lot", 3, 2, 0);
            refused(5, "torn", 3, 2, 0);
            // 1 ahead of 9.
            lay("!");
            refused(1, "line", 21);
            refused(1, "shift", 21);
        });
    }

    private static void numbers() {
        sentence(SECTION, "1 a number that can't be; no such TRAY, MACHINE, TABLE, SORT; a set with others.", () -> {
            full();
            refused(1, "tray", 4, 0, 0);
            refused(1, "read", -1, 0);
            refused(1, "machine", 3, 0);
            refused(1, "minutes", -1, 0);
            refused(1, "table", 2, 0);
            refused(1, "table", -1, 0);
            refused(1, "wash", 3, 0);
            refused(1, "order", 7, 3);
            refused(1, "order", 8, 0);
            refused(1, "order", 9, 0);
            refused(1, "order", -1, 0);
            refused(1, "order", Integer.MIN_VALUE, 0);
            refused(1, "begin", 10_000);
            refused(1, "run", 601);
        });
    }

    private static void trays() {
        sentence(SECTION, "2 the TRAY is MISSING.", () -> {
            full();
            refused(2, "write", 3, 0, 1);
            refused(2, "read", 3, 0);
            refused(2, "pour", 3, 0, 0, 0, 0);
            refused(2, "pour", 0, 0, 3, 0, 0);
            refused(2, "pour", 3, 0, 3, 0, 0);
            refused(2, "heads", 9, 3, 0);
            refused(2, "brief", 3, 1, 1, 0, 0);
            refused(2, "glass", 3, 1);
            refused(2, "closes", 3);
            refused(2, "shifts", 3, 1, 1);
            refused(2, "lot", 3, 1, 0);
            refused(2, "torn", 3, 1, 0);
            // An empty one is not MISSING.
            taken(1, "tray", 3, 0, 0);
            refused(3, "read", 3, 0);
            taken(0, "heads", 9, 3, 0);
        });
        sentence(SECTION, "3 a place that the TRAY has not, or too few numbers.", () -> {
            full();
            taken(9, "read", 0, 2);
            refused(3, "read", 0, 3);
            refused(3, "read", 0, -1);
            refused(3, "read", 0, Integer.MIN_VALUE);
            refused(3, "read", 0, Integer.MAX_VALUE);
            refused(3, "write", 0, 3, 7);
            refused(3, "write", 0, -1, 7);
            refused(3, "pour", 0, 0, 0, 1, 3);
            refused(3, "heads", 12, 0, 4);
            refused(3, "brief", 0, 4, 1, 0, 9);
            refused(3, "glass", 0, 2);
            refused(3, "closes", 0);
            refused(3, "shifts", 1, 4, 99);
            refused(3, "lot", 0, 4, 5);
            refused(3, "torn", 2, 4, 23);
        });
    }

    private static void others() {
        sentence(SECTION, "4 one too many.", () -> {
            full();
            taken(2, "mark");
            taken(3, "mark");
            refused(4, "mark");
            taken(2, "back");
            taken(3, "mark");
        });
        sentence(SECTION, "5 a number in a TRAY that can't be.", () -> {
            full();
            row(3, 3, -1_000, 1, 2, 3, 4, 5, 6, 7);
            refused(5, "heads", 12, 3, 1);
            refused(5, "brief", 3, 1, 1, 0, 9);
            refused(5, "glass", 3, 1);
            refused(5, "closes", 3);
            refused(5, "shifts", 3, 1, 9);
            refused(5, "lot", 3, 1, 5);
            refused(5, "torn", 3, 1, 5);
            // In the last of those asked for it is found as well, and behind them it is not looked at.
            row(3, 3, 1, 2, 3, 4, 5, 6, 7, -1_000, -1_000);
            refused(5, "heads", 9, 3, 8);
            refused(5, "brief", 3, 8, 1, 0, 9);
            refused(5, "glass", 3, 4);
            refused(5, "closes", 3);
            refused(5, "shifts", 3, 8, 9);
            refused(5, "lot", 3, 8, 5);
            refused(5, "torn", 3, 8, 5);
            taken(0, "brief", 3, 7, 1, 0, 9);
            taken(4, "lot", 3, 7, 5);
            // Where any number is asked for alone it is no such one.
            taken(-1_000, "read", 3, 7);
        });
        sentence(SECTION, "6 there is none such.", () -> {
            refused(6, "run", 1);
            refused(6, "holder", 1, 1);
            refused(6, "gained");
            refused(6, "shared", 1, 1, 1);
            refused(6, "unit", 0);
            refused(6, "worked", 0);
            refused(6, "head", 0);
            refused(6, "ordered", 0);
            refused(6, "shiftOf", 0);
            refused(6, "back");
            rich();
            taken(1, "begin", 0);
            refused(6, "machine", 0, 5);
            refused(6, "share", 0);
            refused(6, "unwaited", 2, 1);
            refused(6, "heads", 12, 0, 2);
            refused(6, "head", 3);
            refused(6, "ordered", 3);
            refused(6, "shiftOf", 3);
            refused(6, "recall", 10, 1, 1, 1, 1, 3);
            refused(6, "lot", 0, 3, 0);
            refused(6, "torn", 2, 1, 23);
        });
        sentence(SECTION, "8 TRAYS are of unlike sorts.", () -> {
            full();
            refused(8, "pour", 0, 0, 1, 0, 1);
            refused(8, "pour", 1, 0, 0, 0, 1);
            refused(8, "pour", 0, 0, 2, 0, 0);
            taken(1, "pour", 0, 0, 0, 1, 1);
            for (int sort = 0; sort < 4; sort++) {
                taken(1, "tray", 3, sort, 3);
                if (sort == 3) {
                    taken(1, "pour", 0, 0, 3, 0, 3);
                } else {
                    refused(8, "pour", 0, 0, 3, 0, 3);
                }
            }
        });
    }

    private static void faults() {
        sentence(SECTION, "9 a FAULT. 0 else.", () -> {
            rich();
            lineFault(1, "^!");
            shiftFault(1, "^!");
            line(0, "");
            shift(0, "");
            status(0);
        });
    }

    private static void nothingElse() {
        sentence(SECTION, "With another STATUS than 0 a call gives NONE, or false, and changes nothing else (but line(), "
            + "shift() with 9 the tape, and what fault() tells).", () -> {
            full();
            everyCallRefused();
            taken(2, "mark");
            taken(3, "mark");
            refused(4, "mark");
            // With 1 the tape stays, and what fault() tells; with 9 all of the tape is gone, not only the text.
            refused(1, "line", -1);
            refused(1, "shift", -1);
            refused(1, "line", 21);
            refused(1, "shift", 21);
            taken(0, "fault", 0);
            rich();
            lineFault(2, "machine a speed 5;sort^");
            shiftFault(2, "run 1;loop 1;^");
            rich();
            lay("fill;" + " ".repeat(35) + "run 1;");
            faultyFirst(5, "line");
            taken(20, "feed", 0x72756e20, 0x313b2020, 0x20202020, 0x20202020, 0x20202020);
            taken(1, "shift", 20);
            lay("fill;" + " ".repeat(35) + "run 1;");
            faultyFirst(5, "shift");
            taken(20, "feed", 0x72756e20, 0x313b2020, 0x20202020, 0x20202020, 0x20202020);
            taken(1, "shift", 20);
        });
    }

    private static void faultyFirst(int n, String what) {
        givesNone(what, n);
        status(9);
        taken(2, "fault", 0);
        taken(0, "fault", 1);
    }

    private static void everyCallRefused() {
        refused(1, "tray", 0, 0, 61);
        refused(3, "write", 0, 3, 1);
        refused(3, "read", 0, 3);
        refused(8, "pour", 0, 0, 1, 0, 1);
        refused(1, "many", 4);
        refused(1, "machine", 0, 7);
        refused(1, "table", 0, 2);
        refused(1, "wash", 0, 0);
        refused(1, "begin", -1);
        refused(1, "run", 601);
        refused(1, "minutes", 0, 4);
        refused(1, "blame", 0, 3);
        refused(1, "share", 3);
        refused(1, "tried", 0, 100, 1);
        refused(1, "holder", 21, 1);
        refused(1, "shared", 9, 1, 1);
        refused(1, "unit", 2);
        refused(1, "waits", 0, 21, 1);
        refused(1, "unwaited", 0, 201);
        refused(6, "unwaited", 0, 200);
        refused(1, "worked", 3);
        refused(6, "heads", 12, 0, 2);
        refused(5, "heads", 9, 0, 3);
        refused(1, "head", 5);
        refused(1, "brief", 0, 1, 1, 1, 0);
        refused(5, "glass", 2, 1);
        refused(1, "order", 8, 0);
        refused(6, "ordered", 3);
        refused(3, "closes", 0);
        refused(1, "recall", 0, 1, 1, 1, 1, 0);
        refused(5, "shifts", 1, 3, 5);
        refused(6, "shiftOf", 3);
        refused(6, "lot", 0, 3, 0);
        refused(6, "torn", 2, 3, 19);
    }

    private static void withoutStatus() {
        sentence(SECTION, "status(), top(), bottom(), feed(), fault() have none.", () -> {
            rich();
            refused(8, "pour", 0, 0, 1, 0, 1);
            taken(20, "feed", 0, 0, 0, 0, 0);
            status(8);
            taken(0, "fault", 0);
            taken(-1, "fault", 1);
            taken(-1, "fault", 2);
            taken(3, "top");
            taken(2, "bottom");
            status(8);
            status(8);
            lay(" ".repeat(680));
            refusedFeed();
            status(8);
            taken(3, "many", 0);
            refusedFeed();
            status(0);
        });
    }
}
