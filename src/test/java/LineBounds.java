/** The edges named in ==== 1.: TRAYS, the LINE, its TOKENS, its limits and its FAULTS. */
final class LineBounds extends Bounds {
    private static final String SECTION = "==== 1.";
    private static final String[] LINE_WORDS = {"machine", "speed", "heads", "stops", "lasts", "table", "sort", "wash"};
    private static final String SIX = "machine a speed 1;machine b speed 2;machine c speed 3;machine d speed 4;"
        + "machine e speed 5;machine f speed 6;";
    private static final String SEVEN = "sort a;sort b;sort c;sort d;sort e;sort f;sort g;";

    private LineBounds() {
    }

    static void all() {
        calls();
        constants();
        trays();
        tokens();
        grammar();
        names();
        machines();
        tables();
        sorts();
        firstFault();
        faults1and2();
        faults3and4();
        faults5and6();
        aLineThatIsTaken();
    }

    private static void calls() {
        sentence("What it is", "at most 512 calls after it has been made", () -> {
            BottleLine x = new BottleLine();
            long[] feed = Real.feeds("machine a speed 1;")[0];
            Real.call(x, "feed", feed);
            x.line(18);
            for (int k = 3; k < 512; k++) {
                x.run(1);
            }
            int last = x.many(3);
            if (last != 509) {
                report("the 512th call answered " + last + ", due is 509");
            }
            // What comes later is free, but it must not throw.
            x.run(600);
            x.status();
        });
    }

    private static void constants() {
        sentence("The constants", "`NONE = -1`: None.", () -> {
            if (BottleLine.NONE != -1) {
                report("NONE is " + BottleLine.NONE);
            }
            refused(1, "many", 4);
        });
    }

    private static void trays() {
        sentence(SECTION, "TRAYS 0 to 3 are MISSING at first", () -> {
            for (int tray = 0; tray < 4; tray++) {
                refused(2, "read", tray, 0);
            }
            refused(1, "read", -1, 0);
            refused(1, "read", 4, 0);
            taken(1, "tray", 0, 3, 1);
            taken(0, "read", 0, 0);
            taken(1, "tray", 3, 3, 1);
            taken(0, "read", 3, 0);
            refused(2, "read", 1, 0);
            refused(2, "read", 2, 0);
        });
        sentence(SECTION, "rows of 0 to 60 numbers", () -> {
            full();
            limits(0, 60, 2, "tray", 3, 2, 0);
            refused(2, "read", 3, 0);
            taken(1, "tray", 3, 2, 0);
            refused(3, "read", 3, 0);
            refused(3, "write", 3, 0, 5);
            taken(1, "tray", 3, 2, 1);
            taken(0, "read", 3, 0);
            refused(3, "read", 3, 1);
            taken(1, "tray", 3, 2, 60);
            taken(1, "write", 3, 59, 7);
            taken(7, "read", 3, 59);
            refused(3, "read", 3, 60);
            refused(3, "write", 3, 60, 5);
            refused(1, "tray", 3, 2, 61);
            taken(7, "read", 3, 59);
        });
        sentence(SECTION, "numbers of 8 bits (sort 0), 16 (1), 32 (2) or 64 (3)", () -> {
            limits(0, 3, 1, "tray", 0, 0, 1);
            wraps(0, -128, 127);
            wraps(1, -32_768, 32_767);
            wraps(2, Integer.MIN_VALUE, Integer.MAX_VALUE);
            row(3, 3, Long.MIN_VALUE, Long.MAX_VALUE);
            holds(3, Long.MIN_VALUE, Long.MAX_VALUE);
        });
    }

    /** The least and the most that fit stay; one beyond comes out at the other end. */
    private static void wraps(int sort, long least, long most) {
        long all = most - least + 1;
        row(sort, sort, least, most, most + 1, least - 1, all, all - 1, Long.MIN_VALUE, Long.MAX_VALUE);
        holds(sort, least, most, least, most, 0, -1, 0, -1);
    }

    private static void tokens() {
        sentence(SECTION, "A LINE is a TEXT of at most 700 bytes.", () -> {
            String text = "machine a speed 5;" + " ".repeat(675) + "sort z;";
            line(1, text);
            taken(1, "many", 1);
            lineFault(2, text.substring(0, 699) + "^");
            lay(text);
            refusedFeed();
            refused(1, "line", 701);
            taken(1, "line", 700);
            taken(1, "many", 1);
            rich();
            lay("z".repeat(700));
            refused(1, "line", 701);
        });
        sentence(SECTION, "TOKENS, as long as they go, between them blanks (10, 32)", () -> {
            line(1, "\n machine\na \nspeed \n\n 5 ;\n");
            line(1, "machine a speed5heads2stops3lasts4;sort b;");
            taken(2, "machine", 0, 1);
            taken(4, "machine", 0, 3);
            // Letters go on, so this is the name "aspeed".
            lineFault(2, "machine aspeed ^5;");
            lineFault(2, "^machinea speed 5;");
            lineFault(1, "machine a speed ^12345;");
            for (int other : new int[] {0, 9, 11, 13, 31, 33, 127, 128, 160, 255}) {
                lineFault(1, "machine a^" + (char) other + "speed 5;");
            }
        });
        sentence(SECTION, "WORDS (small letters)", () -> {
            line(1, "machine az speed 5;sort za;");
            lineFault(1, "machine a^`speed 5;");
            lineFault(1, "machine z^{speed 5;");
            lineFault(1, "machine ^A speed 5;");
            lineFault(1, "machine ^Z speed 5;");
            lineFault(1, "machine a^B speed 5;");
            lineFault(1, "machine ^\u00e4 speed 5;");
        });
        sentence(SECTION, "NUMBERS (1 to 4 digits)", () -> {
            line(2, "machine a speed 9;table 0;machine b speed 0009;");
            taken(9, "machine", 0, 0);
            taken(0, "table", 0, 0);
            taken(9, "machine", 1, 0);
            lineFault(4, "machine a speed ^9999;");
            lineFault(1, "machine a speed ^10000;");
            lineFault(1, "machine a speed ^00009;");
            lineFault(1, "machine a speed ^" + "0".repeat(600) + "9;");
            lineFault(1, "machine a speed ^4294967301;");
            lineFault(1, "machine a speed ^/;");
            lineFault(1, "machine a speed 9^:");
            lineFault(2, "machine a speed^;");
        });
        sentence(SECTION, "the SIGN ;", () -> {
            line(1, "machine a speed 5;");
            lineFault(1, "machine a speed 5^:");
            lineFault(1, "machine a speed 5^<");
            lineFault(1, "machine a speed 5^,");
            lineFault(2, "machine a speed 5;^;");
            lineFault(2, "^;");
        });
    }

    private static void grammar() {
        sentence(SECTION, "LINE: {PART}.", () -> {
            line(0, "");
            rich();
            line(0, "");
            taken(0, "many", 0);
            taken(0, "many", 1);
            rich();
            line(0, " \n ");
            line(0, "sort a;");
            line(1, "machine a speed 1;");
        });
        sentence(SECTION, "PART: machine NAME speed NUMBER {OPTION} ; or table NUMBER ; or sort NAME ; or wash NAME NAME NUMBER ;", () -> {
            line(1, "machine a speed 1;table 2;sort a;sort b;wash a b 3;");
            taken(2, "many", 1);
            taken(3, "wash", 0, 1);
            rich();
            // A token too few, and one too many, in each place.
            lineFault(2, "machine ^speed 1;");
            lineFault(2, "machine a ^1;");
            lineFault(2, "machine a speed^;");
            lineFault(2, "machine a speed 1 ^machine b speed 1;");
            lineFault(2, "machine ^machine a speed 1;");
            lineFault(2, "machine a ^b speed 1;");
            lineFault(2, "machine a speed ^speed 1;");
            lineFault(2, "machine a speed 1 ^1;");
            lineFault(2, "machine a speed 1;table^;");
            lineFault(2, "machine a speed 1;table ^a 5;");
            lineFault(2, "machine a speed 1;table 5 ^5;");
            lineFault(2, "sort^;");
            lineFault(2, "sort a ^b;");
            lineFault(2, "sort a ^5;");
            lineFault(2, "sort ^5;");
            lineFault(2, "sort a;sort b;wash^;");
            lineFault(2, "sort a;sort b;wash a^;");
            lineFault(2, "sort a;sort b;wash a ^5;");
            lineFault(2, "sort a;sort b;wash a b^;");
            lineFault(2, "sort a;sort b;wash a b ^a 5;");
            lineFault(2, "sort a;sort b;wash a b 5 ^5;");
        });
        sentence(SECTION, "OPTION: heads NUMBER, or stops NUMBER lasts NUMBER. ({ } any number of times.)", () -> {
            line(4, "machine a speed 1;machine b speed 1 heads 2;machine c speed 1 stops 3 lasts 4;"
                + "machine d speed 1 stops 5 lasts 6 heads 7;");
            taken(7, "machine", 3, 1);
            taken(5, "machine", 3, 2);
            taken(6, "machine", 3, 3);
            line(1, "machine a speed 1 heads 7 stops 5 lasts 6;");
            taken(6, "machine", 0, 3);
            lineFault(2, "machine a speed 1 stops 5^;");
            lineFault(2, "machine a speed 1 ^lasts 5;");
            lineFault(2, "machine a speed 1 stops 5 ^heads 2 lasts 5;");
            lineFault(2, "machine a ^heads 2 speed 1;");
            lineFault(2, "machine a speed 1 heads^;");
        });
    }

    private static void names() {
        sentence(SECTION, "NAME: a WORD of 1 to 8 letters that is none of machine, speed, heads, stops, lasts, table, "
            + "sort, wash.", () -> {
            line(2, "machine z speed 1;machine abcdefgh speed 1;sort z;sort abcdefgh;sort abcdefgi;"
                + "wash abcdefgh abcdefgi 3;");
            taken(3, "wash", 1, 2);
            rich();
            lineFault(2, "machine ^abcdefghi speed 1;");
            lineFault(2, "sort ^abcdefghi;");
            lineFault(2, "sort a;wash ^abcdefghi a 1;");
            lineFault(2, "sort a;wash a ^abcdefghi 1;");
            lineFault(2, "machine ^" + "a".repeat(650) + " speed 1;");
            lineFault(2, "machine ^; speed 1;");
            for (String word : LINE_WORDS) {
                lineFault(2, "machine ^" + word + " speed 1;");
                lineFault(2, "sort ^" + word + ";");
                lineFault(2, "sort a;wash ^" + word + " a 1;");
                lineFault(2, "sort a;wash a ^" + word + " 1;");
            }
            line(6, "machine run speed 1;machine halt speed 1;machine mend speed 1;machine loop speed 1;"
                + "machine when speed 1;machine end speed 1;sort works;sort starved;sort blocked;sort stopped;"
                + "sort machines;sort tabl;sort speede;");
        });
    }

    private static void machines() {
        sentence(SECTION, "MACHINES, at most 6, numbered as they stand in the line", () -> {
            line(6, SIX);
            for (int m = 0; m < 6; m++) {
                taken(m + 1, "machine", m, 0);
            }
            refused(1, "machine", 6, 0);
            refused(1, "machine", -1, 0);
            lineFault(6, SIX + "^machine g speed 7;");
            line(1, "machine a speed 1;");
            refused(1, "machine", 1, 0);
        });
        sentence(SECTION, "SPEED (1 to 99 bottles a minute)", () -> {
            line(2, "machine a speed 1;machine b speed 99;");
            taken(1, "machine", 0, 0);
            taken(99, "machine", 1, 0);
            lineFault(4, "machine a speed ^0;");
            lineFault(4, "machine a speed ^100;");
        });
        sentence(SECTION, "HEADS (1 to 24; 1 without)", () -> {
            line(3, "machine a speed 1 heads 1;machine b speed 1 heads 24;machine c speed 1;");
            taken(1, "machine", 0, 1);
            taken(24, "machine", 1, 1);
            taken(1, "machine", 2, 1);
            lineFault(4, "machine a speed 1 heads ^0;");
            lineFault(4, "machine a speed 1 heads ^25;");
        });
        sentence(SECTION, "STOPS (0 to 64 of sixty-four; 0 without)", () -> {
            line(3, "machine a speed 1 stops 0 lasts 1;machine b speed 1 stops 64 lasts 1;machine c speed 1;");
            taken(0, "machine", 0, 2);
            taken(64, "machine", 1, 2);
            taken(0, "machine", 2, 2);
            // Of sixty-four: 0 never stops, 64 always does.
            status0("run", 600);
            taken(0, "minutes", 0, 3);
            taken(600, "minutes", 1, 3);
            taken(0, "minutes", 2, 3);
            lineFault(4, "machine a speed 1 stops ^65 lasts 1;");
        });
        sentence(SECTION, "that last so many minutes (1 to 99)", () -> {
            line(3, "machine a speed 1 stops 1 lasts 1;machine b speed 1 stops 64 lasts 99;machine c speed 1;");
            taken(1, "machine", 0, 3);
            taken(99, "machine", 1, 3);
            taken(0, "machine", 2, 3);
            // Nothing is left of the LINE ahead.
            line(3, "machine a speed 1;machine b speed 1;machine c speed 1;");
            for (int m = 0; m < 3; m++) {
                taken(0, "machine", m, 2);
                taken(0, "machine", m, 3);
            }
            lineFault(4, "machine a speed 1 stops 1 lasts ^0;");
            lineFault(4, "machine a speed 1 stops 1 lasts ^100;");
        });
    }

    private static void tables() {
        sentence(SECTION, "TABLE k lies behind MACHINE k (all but behind the last one)", () -> {
            refused(1, "table", 0, 0);
            line(1, "machine a speed 1;table 5;");
            refused(1, "table", 0, 0);
            line(2, "machine a speed 1;table 5;machine b speed 1;table 6;");
            taken(5, "table", 0, 0);
            refused(1, "table", 1, 0);
            refused(1, "table", -1, 0);
            line(6, SIX + "table 9;");
            taken(20, "table", 4, 0);
            refused(1, "table", 5, 0);
        });
        sentence(SECTION, "it has room for so many bottles (0 to 999; 20 without)", () -> {
            line(4, "machine a speed 99;table 0;machine b speed 1;table 999;machine c speed 1;machine d speed 1;");
            taken(0, "table", 0, 0);
            taken(999, "table", 1, 0);
            taken(20, "table", 2, 0);
            lineFault(4, "machine a speed 1;table ^1000;");
            taken(0, "run", 600);
            taken(0, "table", 0, 1);
            line(2, "machine a speed 99;table 999;machine b speed 1 stops 64 lasts 9;");
            taken(0, "run", 10);
            taken(990, "table", 0, 1);
            taken(0, "run", 1);
            taken(999, "table", 0, 1);
            taken(0, "run", 1);
            taken(999, "table", 0, 1);
            taken(999, "machine", 0, 6);
        });
        sentence(SECTION, "table tells it of the MACHINE told latest", () -> {
            line(3, "machine a speed 1;machine b speed 1;table 7;machine c speed 1;");
            taken(20, "table", 0, 0);
            taken(7, "table", 1, 0);
            line(2, "machine a speed 1;sort s;sort t;wash s t 1;table 7;machine b speed 1;");
            taken(7, "table", 0, 0);
        });
    }

    private static void sorts() {
        sentence(SECTION, "SORTS, at most 7, numbered as they stand.", () -> {
            line(0, SEVEN + "wash a g 1;wash g a 2;wash b a 3;");
            taken(7, "many", 1);
            taken(1, "wash", 0, 6);
            taken(2, "wash", 6, 0);
            taken(3, "wash", 1, 0);
            refused(1, "wash", 7, 0);
            refused(1, "wash", 0, 7);
            refused(1, "wash", -1, 0);
            lineFault(6, SEVEN + "^sort h;");
        });
        sentence(SECTION, "WASH from one SORT to another: minutes (0 to 999; 10 without).", () -> {
            line(0, "sort a;sort b;sort c;wash a b 0;wash b a 999;");
            taken(0, "wash", 0, 1);
            taken(999, "wash", 1, 0);
            taken(10, "wash", 0, 2);
            lineFault(4, "sort a;sort b;wash a b ^1000;");
            refused(1, "wash", 1, 1);
        });
    }

    private static void firstFault() {
        sentence(SECTION, "FAULTS, the first along the text (of one TOKEN the least kind)", () -> {
            rich();
            lineFault(4, "machine a speed ^0;table 1000;!");
            lineFault(1, "machine a speed 1;^!machine a speed 0;");
            lineFault(5, "^table 1000;12345");
            lineFault(3, "machine a speed 1;machine ^a speed 0;");
            lineFault(6, SIX + "^machine abcdefghi speed 0;");
            // Of one token: 1 ahead of 2.
            lineFault(1, "machine ^12345 speed 1;");
            lineFault(1, SIX + "^?");
            // 2 ahead of 3: nine letters, and no sort.
            lineFault(2, "sort a;wash ^abcdefghi a 1;");
            // 2 ahead of 4: a hundred where no number may stand.
            lineFault(2, "machine ^100 speed 1;");
            // 2 ahead of 5: heads told already, a table ahead of any machine, where neither may stand.
            lineFault(2, "machine a speed 1 heads 2 stops ^heads 3;");
            lineFault(2, "sort ^table 5;");
            // 2 ahead of 6: the seventh machine's word where a name must stand.
            lineFault(2, SIX + "sort ^machine;");
            lineFault(2, SEVEN + "wash ^sort a 1;");
            // 3 ahead of 5: no sort, and from itself to itself.
            lineFault(3, "machine b speed 1;sort a;wash ^b b 1;");
        });
    }

    private static void faults1and2() {
        sentence(SECTION, "1 no TOKEN begins so (a NUMBER of 5 digits and more: at its first).", () -> {
            rich();
            lineFault(1, "^_");
            lineFault(1, "machine a speed 1;^\u00ff");
            lineFault(1, "machine a speed 1;^\u0000");
            lineFault(1, "machine a speed ^-1;");
            lineFault(1, "machine a speed ^12345;");
            lineFault(1, "machine a speed 1 ^1234567890123;");
            lineFault(1, "^00000");
            lineFault(2, "machine a speed 1 ^1234;");
        });
        sentence(SECTION, "2 it can't stand there (the end: the text's length; also a WORD of 9 letters and more where a "
            + "NAME must stand).", () -> {
            rich();
            lineFault(2, "machine^");
            lineFault(2, "machine a^");
            lineFault(2, "machine a speed^");
            lineFault(2, "machine a speed 1^");
            lineFault(2, "machine a speed 1  \n^");
            lineFault(2, "machine a speed 1 heads^");
            lineFault(2, "machine a speed 1 stops 1^");
            lineFault(2, "machine a speed 1 stops 1 lasts^");
            lineFault(2, "machine a speed 1;table^");
            lineFault(2, "sort^");
            lineFault(2, "sort a;wash^");
            lineFault(2, "sort a;wash a^");
            lineFault(2, "sort a;sort b;wash a b^");
            lineFault(2, "sort a;sort b;wash a b 1^");
            lineFault(2, "^fill;");
            lineFault(2, "^speed 5;");
            lineFault(2, "^5;");
            lineFault(2, "machine ^abcdefghi speed 1;");
            lineFault(2, "machine a ^speeds 1;");
            lineFault(2, "machine a speed ^one;");
            // Not the word, whichever of its letters is another one.
            lineFault(2, "^nachine a speed 1;");
            lineFault(2, "^machina a speed 1;");
            lineFault(2, "machine a ^zpeed 1;");
            lineFault(2, "machine a speed 1 ^zeads 1;");
            lineFault(2, "machine a speed 1 ^ztops 1 lasts 1;");
            lineFault(2, "machine a speed 1 stops 1 ^zasts 1;");
            lineFault(2, "machine a speed 1;^fable 5;");
            lineFault(2, "^port a;");
            lineFault(2, "sort a;sort b;^mash a b 5;");
            // The text's end is where it is cut, not where the tape ends: within a number, within a word.
            cut("machine a speed 1", "2;", 17);
            cut("machine a speed", "s 1;", 15);
            cut("machine a", "b speed 1;", 9);
            cut("machine a speed 1", ";", 17);
            fresh();
            lay("machine a speed 1;sort b;");
            taken(1, "line", 18);
            taken(0, "many", 1);
        });
    }

    /** The text is the first part of what lies on the tape, and wants more at its end. */
    private static void cut(String text, String more, int place) {
        rich();
        lay(text + more);
        givesNone("line", text.length());
        status(9);
        taken(2, "fault", 0);
        taken(place, "fault", 1);
        taken(3, "many", 0);
    }

    private static void faults3and4() {
        sentence(SECTION, "3 machine with a NAME that is a MACHINE already, sort with one that is a SORT already; wash with "
            + "one that is no SORT told ahead.", () -> {
            rich();
            lineFault(3, "machine a speed 1;machine ^a speed 1;");
            lineFault(3, "machine abcdefgh speed 1;machine b speed 1;machine ^abcdefgh speed 1;");
            lineFault(3, "sort a;sort b;sort ^a;");
            lineFault(3, "sort abcdefgh;sort ^abcdefgh;");
            lineFault(3, "wash ^a b 1;sort a;sort b;");
            lineFault(3, "sort a;wash a ^b 1;sort b;");
            lineFault(3, "sort b;wash ^a b 1;");
            lineFault(3, "machine b speed 1;sort a;wash a ^b 1;");
            line(2, "machine a speed 1;sort a;machine abcdefgi speed 1;sort abcdefgh;sort abcdefg;");
            namesApart();
            // Names of the LINE ahead are gone.
            fresh();
            line(1, "machine a speed 1;sort a;sort abcdefgh;");
            line(1, "machine a speed 1;sort a;");
            lineFault(3, "sort b;wash b ^abcdefgh 1;");
        });
        sentence(SECTION, "4 a NUMBER that can't be.", () -> {
            rich();
            lineFault(4, "machine a speed ^0000;");
            lineFault(4, "machine a speed ^0100 heads 0;");
            lineFault(4, "machine a speed 99 heads ^25 stops 65 lasts 0;");
            lineFault(4, "machine a speed 99 heads 24 stops ^65 lasts 0;");
            lineFault(4, "machine a speed 99 heads 24 stops 64 lasts ^100;");
            lineFault(4, "machine a speed 99 heads 24 stops 64 lasts 99;table ^1000;");
            lineFault(4, "sort a;sort b;wash a b 999;wash b a ^1000;");
        });
    }

    /** Any two names that are not the same letter for letter are two. */
    private static void namesApart() {
        String letters = "abcdefghijklmnopqrstuvwxyz";
        for (String one : new String[] {"a", "p", "z", "aa", "ba", "az", "za", "zz", "aaaaaaaa", "zzzzzzzz"}) {
            for (int k = 0; k < 27 * 27; k++) {
                String ahead = k / 27 == 26 ? "" : letters.substring(k / 27, k / 27 + 1);
                String other = ahead + (k % 27 == 26 ? one : letters.substring(k % 27, k % 27 + 1));
                if (!other.equals(one) && other.length() < 9) {
                    fresh();
                    line(2, "machine " + one + " speed 1;machine " + other + " speed 2;");
                }
            }
        }
    }

    private static void faults5and6() {
        sentence(SECTION, "5 heads, stops told already of the MACHINE (at that WORD); a table ahead of any MACHINE, or told "
            + "already of it (at table); wash from a SORT to itself, or told already from that to that (at its second "
            + "NAME).", () -> {
            rich();
            lineFault(5, "machine a speed 1 heads 2 ^heads 2;");
            lineFault(5, "machine a speed 1 stops 1 lasts 1 ^stops 1 lasts 1;");
            lineFault(5, "machine a speed 1 heads 1 stops 0 lasts 1 ^heads 1;");
            lineFault(5, "machine a speed 1 stops 0 lasts 1 heads 1 ^stops 0 lasts 1;");
            line(2, "machine a speed 1 heads 2;machine b speed 1 heads 2;");
            lineFault(5, "^table 5;machine a speed 1;");
            lineFault(5, "sort a;^table 5;");
            lineFault(5, "machine a speed 1;table 20;^table 20;");
            lineFault(5, "machine a speed 1;table 5;sort s;^table 5;");
            lineFault(5, "machine a speed 1;machine b speed 1;table 5;^table 5;");
            line(2, "machine a speed 1;table 5;machine b speed 1;table 5;");
            lineFault(5, "sort a;wash a ^a 1;");
            lineFault(5, "sort a;sort b;wash a b 10;wash a ^b 10;");
            lineFault(5, "sort a;sort b;wash a b 0;wash a ^b 1;");
            line(0, "sort a;sort b;wash a b 10;wash b a 10;");
        });
        sentence(SECTION, "6 a seventh MACHINE (at machine), an eighth SORT (at sort).", () -> {
            line(6, SIX + SEVEN);
            taken(7, "many", 1);
            lineFault(6, SIX + "^machine");
            lineFault(6, SEVEN + "^sort");
            lineFault(6, SIX + SEVEN + "^sort a;machine");
            lineFault(6, SIX + SEVEN + "^machine a speed 1;sort");
        });
    }

    private static void aLineThatIsTaken() {
        sentence(SECTION, "A LINE that is taken is there in place of that ahead, BEGUN with seed 0.", () -> {
            rich();
            // The first draw from seed 0 is 0, the second 37.
            line(2, "machine z speed 3 stops 1 lasts 1;machine y speed 2;sort ale;sort wine;");
            taken(2, "many", 1);
            taken(0, "many", 2);
            taken(0, "many", 3);
            taken(0, "machine", 0, 4);
            taken(0, "machine", 0, 6);
            taken(20, "table", 0, 0);
            taken(0, "table", 0, 1);
            taken(10, "wash", 0, 1);
            refused(6, "machine", 0, 5);
            refused(1, "machine", 2, 0);
            refused(6, "share", 0);
            taken(0, "run", 1);
            taken(3, "machine", 0, 5);
            taken(0, "run", 1);
            taken(0, "machine", 0, 5);
            // So is the seed with which SHARED begins: of three minutes a stands one, and b gets what a laid in one.
            taken(2, "shared", 1, 20, 3);
            // The SHIFT and the MARKS stay.
            taken(4, "work");
            taken(0, "back");
            taken(3, "many", 0);
        });
    }
}
