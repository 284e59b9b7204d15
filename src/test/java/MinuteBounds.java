/** The edges named in ==== 2.: seeds, draws, MINUTES, who starves and who is blocked, and what would be. */
final class MinuteBounds extends Bounds {
    private static final String SECTION = "==== 2.";
    /** Has full tables and a last machine that holds all back, after a while. */
    private static final String SLOW_END = "machine a speed 5;table 20;machine b speed 2;";

    private static final String SIX_FAST = "machine a speed 9;machine b speed 9;machine c speed 9;machine d speed 9;"
        + "machine e speed 9;";

    private MinuteBounds() {
    }

    static void all() {
        begun();
        stops();
        draws();
        bottlesTaken();
        states();
        counted();
        blame();
        tried();
        holder();
        sharedWays();
        sharedLimits();
        waits();
        unwaited();
    }

    private static void begun() {
        sentence(SECTION, "BEGUN with a seed (0 to 9,999)", () -> {
            full();
            limits(0, 9_999, 0, "begin", 0);
            fresh();
            // From 0 the first draw is 0; from 9,999 s is 53,412 and the first draw 20.
            stopsFirst(0, 1, 3);
            stopsFirst(9_999, 20, 0);
            stopsFirst(9_999, 21, 3);
        });
        sentence(SECTION, "TABLES are empty, no MACHINE is stopped, nothing is made, all counts are 0.", () -> {
            rich();
            shift(1, "halt a 9;");
            taken(1, "work");
            taken(9, "machine", 0, 4);
            taken(1, "begin", 77);
            taken(0, "many", 2);
            taken(0, "many", 3);
            for (int m = 0; m < 3; m++) {
                taken(0, "machine", m, 4);
                taken(0, "machine", m, 6);
                refused(6, "machine", m, 5);
                refused(6, "share", m);
                for (int k = 0; k < 4; k++) {
                    taken(0, "minutes", m, k);
                }
                for (int other = 0; other < 3; other++) {
                    taken(0, "blame", m, other);
                }
            }
            taken(0, "table", 0, 1);
            taken(0, "table", 1, 1);
        });
    }

    private static void stopsFirst(long seed, int stops, int how) {
        line(1, "machine a speed 5 stops " + stops + " lasts 1;");
        taken(1, "begin", seed);
        status0("run", 1);
        taken(how, "machine", 0, 5);
    }

    private static void stops() {
        sentence(SECTION, "MACHINE by MACHINE, 0 first: if it has minutes to stand, one is gone, it is STOPPED", () -> {
            // MACHINE 0 draws first: 0 and 34 are its draws, 37 and 1 those of MACHINE 1.
            line(2, "machine a speed 1 stops 34 lasts 1;machine b speed 1 stops 38 lasts 1;");
            status0("run", 2);
            taken(1, "minutes", 0, 3);
            taken(2, "minutes", 1, 3);
            line(1, "machine a speed 5;");
            shift(1, "halt a 2;");
            taken(1, "work");
            taken(2, "machine", 0, 4);
            taken(0, "run", 1);
            taken(1, "machine", 0, 4);
            taken(3, "machine", 0, 5);
            taken(0, "run", 1);
            taken(0, "machine", 0, 4);
            taken(3, "machine", 0, 5);
            taken(5, "run", 1);
            taken(0, "machine", 0, 4);
            taken(0, "machine", 0, 5);
            // One that stands makes no draw: the second draw, 37, comes in the third minute.
            line(1, "machine a speed 5 stops 37 lasts 2;");
            taken(0, "run", 2);
            taken(5, "run", 1);
        });
        sentence(SECTION, "if its STOPS are above 0, a draw by 64: less than STOPS: it is STOPPED", () -> {
            // The second draw from seed 0 is 37.
            line(1, "machine a speed 5 stops 37 lasts 1;");
            taken(5, "run", 2);
            line(1, "machine a speed 5 stops 38 lasts 1;");
            taken(0, "run", 2);
            // Without stops nothing is drawn: the first draw, 0, is the second machine's.
            line(2, "machine a speed 5 stops 0 lasts 1;machine b speed 5 stops 1 lasts 1;");
            status0("run", 1);
            taken(3, "machine", 1, 5);
            line(2, "machine a speed 5 stops 1 lasts 1;machine b speed 5 stops 37 lasts 1;");
            status0("run", 1);
            taken(3, "machine", 0, 5);
            taken(1, "machine", 1, 5);
        });
        sentence(SECTION, "with as many minutes to stand as it lasts, less 1.", () -> {
            line(1, "machine a speed 5 stops 1 lasts 1;");
            taken(0, "run", 1);
            taken(3, "machine", 0, 5);
            taken(0, "machine", 0, 4);
            taken(5, "run", 1);
            line(1, "machine a speed 5 stops 1 lasts 99;");
            taken(0, "run", 1);
            taken(98, "machine", 0, 4);
            taken(0, "run", 98);
            taken(0, "machine", 0, 4);
            taken(99, "minutes", 0, 3);
            taken(5, "run", 1);
        });
    }

    private static void draws() {
        sentence(SECTION, "Draws by n: s, at first the seed, becomes what is left of s times 3,373 and 12,289 by 65,536; the "
            + "draw is the rest of s by 8, rounded down, by n.", () -> {
            for (int seed : new int[] {0, 1, 4_097, 9_999}) {
                for (int stops : new int[] {1, 32, 63}) {
                    fresh();
                    line(1, "machine a speed 1 stops " + stops + " lasts 1;");
                    taken(1, "begin", seed);
                    long s = seed;
                    for (int k = 0; k < 150; k++) {
                        s = (s * 3_373 + 12_289) % 65_536;
                        taken(s / 8 % 64 < stops ? 0 : 1, "run", 1);
                    }
                }
            }
        });
    }

    private static void bottlesTaken() {
        sentence(SECTION, "from the last MACHINE to the first, each that is not STOPPED takes as many bottles as its SPEED, "
            + "but no more than lie on the TABLE ahead of it (ahead of the first there are always enough), and than its "
            + "own TABLE has room for (behind the last there is always room), and lays them there.", () -> {
            // The last one comes first: what is laid in a minute is taken in the next, and room is made in the same.
            line(2, "machine a speed 5;table 5;machine b speed 5;");
            taken(0, "run", 1);
            taken(5, "table", 0, 1);
            taken(5, "run", 1);
            taken(5, "table", 0, 1);
            taken(0, "machine", 0, 5);
            // No more than lie ahead: three, then two of three.
            line(2, "machine a speed 3;table 99;machine b speed 2;");
            taken(2, "run", 2);
            taken(4, "table", 0, 1);
            line(2, "machine a speed 3;table 99;machine b speed 9;");
            taken(3, "run", 2);
            taken(3, "table", 0, 1);
            // No more than there is room for.
            line(2, "machine a speed 9;table 4;machine b speed 1 stops 64 lasts 9;");
            taken(0, "run", 3);
            taken(4, "table", 0, 1);
            taken(4, "machine", 0, 6);
            line(2, "machine a speed 9;table 0;machine b speed 9;");
            taken(0, "run", 600);
            taken(0, "machine", 0, 6);
            // Ahead of the first there are always enough, and behind the last there is always room.
            line(1, "machine a speed 99;table 0;");
            taken(59_400, "run", 600);
            taken(59_400, "run", 600);
            taken(118_800, "many", 3);
            taken(1_200, "minutes", 0, 0);
            // One that is stopped takes none.
            line(2, "machine a speed 9 stops 64 lasts 9;machine b speed 9;");
            taken(0, "run", 9);
            taken(0, "table", 0, 1);
        });
    }

    private static void states() {
        sentence(SECTION, "It WORKS, if these are as many as its SPEED; else it is STARVED, if on the TABLE ahead there were "
            + "less than its SPEED and no more than its room; else it is BLOCKED.", () -> {
            middle(5, 5, 5, 0);
            middle(6, 5, 6, 0);
            middle(4, 5, 5, 1);
            middle(4, 5, 4, 1);
            middle(4, 5, 3, 2);
            middle(5, 5, 4, 2);
            middle(6, 5, 4, 2);
            middle(4, 5, 0, 2);
            middle(1, 1, 0, 2);
            middle(1, 1, 1, 0);
            // Nothing ahead and no room: starved, not blocked.
            line(3, "machine a speed 5;machine b speed 5;table 0;machine c speed 1;");
            status0("run", 1);
            taken(1, "machine", 1, 5);
            // The first never starves, the last is never blocked.
            line(2, "machine a speed 5;table 0;machine b speed 5;");
            status0("run", 1);
            taken(2, "machine", 0, 5);
            taken(1, "machine", 1, 5);
        });
    }

    /** In the second minute so many lie ahead of a machine between two others, and its table has so much room. */
    private static void middle(int ahead, int speed, int room, int how) {
        line(3, "machine a speed " + ahead + ";table 99;machine b speed " + speed + ";table " + room
            + ";machine c speed 9;");
        status0("run", 2);
        taken(how, "machine", 1, 5);
        taken(Math.min(ahead, Math.min(speed, room)), "machine", 1, 6);
    }

    private static void counted() {
        sentence(SECTION, "Counted of each MACHINE are minutes in which it WORKS (0), is STARVED (1), BLOCKED (2), STOPPED "
            + "(3), and bottles.", () -> {
            // Draws from seed 0: 0, 37, 34, 1, 3; so a stands in minutes 1, 4 and 5.
            line(2, "machine a speed 5 stops 4 lasts 1;table 6;machine b speed 3;");
            taken(9, "run", 5);
            taken(1, "minutes", 0, 0);
            taken(0, "minutes", 0, 1);
            taken(1, "minutes", 0, 2);
            taken(3, "minutes", 0, 3);
            taken(9, "machine", 0, 6);
            taken(3, "minutes", 1, 0);
            taken(2, "minutes", 1, 1);
            taken(0, "minutes", 1, 2);
            taken(0, "minutes", 1, 3);
            taken(9, "machine", 1, 6);
            refused(1, "minutes", 0, 4);
            refused(1, "minutes", 0, -1);
        });
        sentence(SECTION, "MADE: bottles of the last one.", () -> {
            taken(0, "many", 3);
            line(1, "machine a speed 7;");
            taken(0, "many", 3);
            taken(7, "run", 1);
            taken(7, "many", 3);
            line(2, "machine a speed 7;machine b speed 3;");
            taken(3, "run", 2);
            taken(3, "many", 3);
            taken(3, "machine", 1, 6);
            taken(14, "machine", 0, 6);
        });
    }

    private static void blame() {
        sentence(SECTION, "a STARVED MACHINE blames the nearest one ahead of it that is not STARVED in that minute, a "
            + "BLOCKED one the nearest one behind it that is not BLOCKED.", () -> {
            // In the first minute all behind the first starve and blame it, the farthest too.
            line(6, "machine a speed 5;machine b speed 5;machine c speed 5;machine d speed 5;machine e speed 5;"
                + "machine f speed 5;");
            status0("run", 1);
            for (int m = 1; m < 6; m++) {
                taken(1, "blame", m, 0);
                taken(0, "blame", m, m);
            }
            taken(0, "blame", 5, 4);
            taken(0, "blame", 2, 1);
            // The second one works in the second minute: it is the nearest that does not starve.
            status0("run", 1);
            taken(1, "blame", 5, 0);
            taken(1, "blame", 5, 1);
            taken(1, "blame", 2, 1);
            // Full tables, and the last one stands: all ahead are blocked and blame it, the farthest too.
            line(4, "machine a speed 5;table 5;machine b speed 5;table 5;machine c speed 5;table 5;machine d speed 1 stops 64 "
                + "lasts 99;");
            taken(0, "run", 4);
            taken(1, "blame", 0, 3);
            taken(1, "blame", 1, 3);
            taken(1, "blame", 2, 3);
            taken(0, "blame", 3, 0);
            // Only the nearest one: b is blocked by c, and a by c, while d starves.
            line(4, "machine a speed 5;table 5;machine b speed 5;table 5;machine c speed 1 stops 64 lasts 99;table 5;"
                + "machine d speed 9;");
            taken(0, "run", 3);
            taken(1, "blame", 0, 2);
            taken(1, "blame", 1, 2);
            taken(0, "blame", 0, 3);
            taken(3, "blame", 3, 2);
            taken(0, "blame", 3, 0);
        });
    }

    private static void tried() {
        sentence(SECTION, "if a MACHINE's SPEED were another one from now on (nothing is changed).", () -> {
            full();
            long asItIs = status0("machine", 2, 0);
            keeps(Witness.all(), 3, "tried", 2, 1, 3);
            long many = status0("tried", 2, asItIs, 600);
            keeps(Witness.all(), many, "tried", 2, asItIs, 600);
            taken(many, "run", 600);
            taken(asItIs, "machine", 2, 0);
            fresh();
            line(1, "machine a speed 50;");
            taken(600, "tried", 0, 1, 600);
            taken(59_400, "tried", 0, 99, 600);
            taken(1, "tried", 0, 1, 1);
            taken(0, "many", 2);
        });
    }

    private static void holder() {
        sentence(SECTION, "HOLDER: the MACHINE for which most are, if its SPEED is so much more (1 to 20; 99 at most); of "
            + "several the first.", () -> {
            full();
            limits(1, 20, 0, "holder", 1, 5);
            keeps(Witness.allBut(Witness.GAINED), 0, "holder", 1, 1);
            fresh();
            // Ninety-nine is the most: one more and twenty more are the same for 98.
            line(1, "machine a speed 98;");
            taken(0, "holder", 1, 10);
            taken(10, "gained");
            taken(0, "holder", 20, 10);
            taken(10, "gained");
            line(1, "machine a speed 99;");
            taken(0, "holder", 20, 10);
            taken(0, "gained");
            line(1, "machine a speed 79;");
            taken(0, "holder", 20, 10);
            taken(200, "gained");
            line(1, "machine a speed 80;");
            taken(0, "holder", 20, 10);
            taken(190, "gained");
            // Of several the first: no one alone helps.
            line(2, "machine a speed 5;table 99;machine b speed 5;");
            taken(0, "holder", 20, 10);
            taken(0, "gained");
            line(3, "machine a speed 9;table 0;machine b speed 5;table 9;machine c speed 5;");
            taken(0, "holder", 20, 10);
            taken(0, "gained");
            // Each one alone helps as much: from seed 13 the draws are 41, 0, 49, so a stands in minutes 2 and 3.
            line(2, "machine a speed 5 stops 1 lasts 2;table 99;machine b speed 3;");
            taken(1, "begin", 13);
            taken(9, "tried", 0, 6, 5);
            taken(9, "tried", 1, 4, 5);
            taken(0, "holder", 1, 5);
            taken(1, "gained");
            // The first one, the last one, and the last of six.
            line(2, "machine a speed 2;table 99;machine b speed 9;");
            taken(0, "holder", 1, 10);
            taken(9, "gained");
            line(2, SLOW_END);
            taken(1, "holder", 1, 10);
            taken(9, "gained");
            line(6, SIX_FAST + "machine f speed 2;");
            taken(5, "holder", 1, 10);
            taken(5, "gained");
        });
    }

    private static void sharedWays() {
        sentence(SECTION, "SHARED: so many units (0 to 8) of so many bottles (1 to 99) shared out to all TABLES in all ways", () -> {
            full();
            limits(0, 8, 0, "shared", 0, 1, 1);
            limits(1, 99, 1, "shared", 1, 1, 1);
            fresh();
            // No unit: no table has room. One unit leaves one of two tables without room.
            line(3, "machine a speed 99;machine b speed 99;machine c speed 99;");
            taken(0, "shared", 0, 99, 9);
            taken(0, "shared", 1, 99, 9);
            // Two of ninety-nine: 99 a minute, but for the first two.
            taken(693, "shared", 2, 99, 9);
            taken(7, "shared", 2, 1, 9);
            taken(28, "shared", 8, 1, 9);
            line(2, "machine a speed 99;table 999;machine b speed 99;");
            taken(8, "shared", 1, 1, 9);
            taken(64, "shared", 8, 1, 9);
            taken(792, "shared", 1, 99, 9);
            taken(792, "shared", 8, 99, 9);
        });
        sentence(SECTION, "the LINE BEGUN with the seed with which it was begun latest, for so many minutes", () -> {
            line(2, "machine a speed 5 stops 20 lasts 1;table 60;machine b speed 5;");
            // The first draw from 9,999 is 20, that from 0 is 0, that from 5 is 60.
            taken(1, "begin", 9_999);
            taken(5, "shared", 1, 60, 2);
            taken(1, "begin", 0);
            taken(0, "shared", 1, 60, 2);
            status0("run", 7);
            taken(0, "shared", 1, 60, 2);
            taken(1, "begin", 5);
            status0("run", 7);
            taken(5, "shared", 1, 60, 2);
            refused(1, "begin", 10_000);
            taken(5, "shared", 1, 60, 2);
        });
        sentence(SECTION, "of several the first by TABLE 0's units, then TABLE 1's (the fewer ahead), and so on. Nothing is "
            + "changed.", () -> {
            full();
            keeps(Witness.allBut(Witness.UNITS), 0, "shared", 0, 1, 200);
            fresh();
            line(4, "machine a speed 1;machine b speed 1;machine c speed 1;machine d speed 1;");
            // Each table needs a unit; the others lie behind.
            taken(7, "shared", 8, 1, 10);
            taken(1, "unit", 0);
            taken(1, "unit", 1);
            taken(6, "unit", 2);
            // All ways are alike: all units at the last one.
            taken(0, "shared", 2, 1, 10);
            taken(0, "unit", 0);
            taken(0, "unit", 1);
            taken(2, "unit", 2);
            line(2, "machine a speed 1;machine b speed 1;");
            taken(9, "shared", 8, 1, 10);
            taken(8, "unit", 0);
        });
    }

    private static void sharedLimits() {
        sentence(SECTION, "(BEGUN, SPEEDS stay as a SHIFT made them.)", () -> {
            line(2, "machine a speed 5;table 99;machine b speed 5;");
            shift(2, "speed a 1;speed b 99;");
            taken(2, "work");
            taken(1, "begin", 0);
            taken(1, "machine", 0, 0);
            taken(99, "machine", 1, 0);
            taken(9, "run", 10);
            taken(9, "shared", 8, 99, 10);
            refused(1, "begin", -1);
            taken(1, "machine", 0, 0);
            // A LINE that is taken has its own.
            line(2, "machine a speed 5;table 99;machine b speed 5;");
            taken(5, "machine", 0, 0);
        });
    }

    private static void waits() {
        sentence(SECTION, "if the SPEEDS of all others were so much more (0 to 20; 99 at most) from now on.", () -> {
            full();
            limits(0, 20, 1, "waits", 0, 0, 5);
            long waits = status0("waits", 2, 20, 100);
            keeps(Witness.all(), waits, "waits", 2, 20, 100);
            fresh();
            // The last one takes 99; the first lays 79 and 20 more, or 78 and 20 more.
            line(2, "machine a speed 79;table 999;machine b speed 99;");
            taken(9, "waits", 1, 0, 9);
            taken(9, "waits", 1, 19, 9);
            taken(1, "waits", 1, 20, 9);
            line(2, "machine a speed 78;table 999;machine b speed 99;");
            taken(9, "waits", 1, 20, 9);
            // Ninety-nine at most: with more the last one would empty the table.
            line(3, "machine a speed 98;table 999;machine b speed 98;table 999;machine c speed 98;");
            taken(1, "waits", 1, 0, 9);
            taken(1, "waits", 1, 20, 9);
            taken(2, "waits", 2, 20, 9);
            line(2, "machine a speed 99;table 99;machine b speed 90;");
            taken(1, "waits", 0, 8, 2);
            taken(0, "waits", 0, 9, 2);
            line(6, SIX_FAST + "machine f speed 9;");
            taken(5, "waits", 5, 0, 9);
            taken(5, "waits", 5, 20, 9);
            taken(0, "waits", 0, 20, 9);
            taken(0, "waits", 0, 20, 2);
        });
    }

    private static void unwaited() {
        sentence(SECTION, "UNWAITED: the least so much more by which it is in none.", () -> {
            line(2, SLOW_END);
            status0("run", 20);
            keeps(Witness.all(), 3, "unwaited", 0, 5);
            taken(1, "waits", 0, 2, 1);
            taken(0, "waits", 0, 3, 5);
            taken(0, "unwaited", 1, 200);
            unwaitedBy(25, 20);
            unwaitedBy(24, 19);
            unwaitedBy(6, 1);
            unwaitedBy(5, 0);
            line(2, "machine a speed 26;table 26;machine b speed 5;");
            status0("run", 30);
            refused(6, "unwaited", 0, 5);
            taken(5, "waits", 0, 20, 5);
        });
    }

    /** The table is full, and the last machine takes five. */
    private static void unwaitedBy(int speed, int more) {
        line(2, "machine a speed " + speed + ";table " + speed + ";machine b speed 5;");
        status0("run", 30);
        taken(more, "unwaited", 0, 5);
    }
}
