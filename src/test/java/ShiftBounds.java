/** The edges named in ==== 3.: the SHIFT, its STEPS and FAULTS, and how far it is done. */
final class ShiftBounds extends Bounds {
    private static final String SECTION = "==== 3.";
    private static final String[] SHIFT_WORDS =
        {"run", "speed", "halt", "mend", "loop", "when", "end", "works", "starved", "blocked", "stopped"};
    /** With 81 MINUTES. */
    private static final String STEPS_91 = "loop 9;loop 9;run 1;end;end;";
    /** In 18 STEPS. */
    private static final String MINUTES_960 = "loop 9;run 60;end;loop 7;run 60;end;";

    private ShiftBounds() {
    }

    static void all() {
        text();
        numbers();
        loops();
        whens();
        names();
        faults1and2();
        faults4to6();
        stepsDone();
        minutesDone();
        withoutMachines();
    }

    private static void works(int steps, int minutes, int made, int left) {
        taken(steps, "work");
        taken(minutes, "worked", 0);
        taken(made, "worked", 1);
        taken(left, "worked", 2);
    }

    private static void text() {
        sentence(SECTION, "A SHIFT is a TEXT of at most 300 bytes, of such TOKENS (the empty one at first).", () -> {
            works(0, 0, 0, 0);
            String text = "run 1;" + " ".repeat(288) + "run 2;";
            shift(2, text);
            works(2, 3, 0, 0);
            shiftFault(2, text.substring(0, 299) + "^");
            lay(text + " ");
            refused(1, "shift", 301);
            taken(2, "shift", 300);
            rich();
            lay(" ".repeat(700));
            refused(1, "shift", 301);
            refused(1, "shift", 700);
            refused(1, "shift", 701);
            taken(0, "shift", 300);
            works(0, 0, 0, 0);
            // A LINE may be longer.
            line(0, " ".repeat(301));
            rich();
            shift(0, "");
            works(0, 0, 0, 0);
            shift(1, "\n run\n\n1 ;\n");
            shift(2, "run1;halt a5;");
            shiftFault(1, "run 1;^\t");
            shiftFault(1, "run 1;^\u00ff");
            shiftFault(1, "run ^00001;");
            shiftFault(1, "^Run 1;");
        });
        sentence(SECTION, "STEP: run NUMBER ; or speed NAME NUMBER ; or halt NAME NUMBER ; or mend NAME ; or loop NUMBER ; {STEP} "
            + "end ; or when NAME STATE ; {STEP} end ; STATE: works, or starved, or blocked, or stopped.", () -> {
            shift(9, "run 1;speed a 1;halt a 1;mend a;loop 1;end;when a works;end;when a starved;end;when a blocked;end;"
                + "when a stopped;end;");
            rich();
            // A token too few, and one too many, in each place.
            shiftFault(2, "run 1 ^1;");
            shiftFault(2, "run ^run 1;");
            shiftFault(2, "speed ^1;");
            shiftFault(2, "speed a^;");
            shiftFault(2, "speed a ^b 1;");
            shiftFault(2, "speed a 1 ^1;");
            shiftFault(2, "halt ^1;");
            shiftFault(2, "halt a^;");
            shiftFault(2, "halt a 1 ^1;");
            shiftFault(2, "mend^;");
            shiftFault(2, "mend a ^1;");
            shiftFault(2, "mend a ^b;");
            shiftFault(2, "loop^;end;");
            shiftFault(2, "loop 1 ^run 1;end;");
            shiftFault(2, "loop 1 ^end;");
            shiftFault(2, "loop ^a 1;end;");
            shiftFault(2, "loop 1;run 1 ^end;");
            shiftFault(2, "loop 1;end ^1;");
            shiftFault(2, "loop 1;end ^end;");
            shiftFault(2, "when ^works;end;");
            shiftFault(2, "when a^;end;");
            shiftFault(2, "when a works ^starved;end;");
            shiftFault(2, "when a ^end;");
            shiftFault(2, "when a ^b;end;");
        });
        sentence(SECTION, "SHIFT: {STEP}.", () -> {
            shift(0, "");
            shift(0, "  \n");
            shift(1, "run 1;");
            shift(2, "loop 1;end;when a works;end;");
            shift(3, "loop 1;run 1;run 1;end;");
        });
    }

    private static void numbers() {
        sentence(SECTION, "run n (1 to 60): so many MINUTES.", () -> {
            line(1, "machine a speed 2;");
            shift(1, "run 1;");
            works(1, 1, 2, 0);
            shift(1, "run 60;");
            works(1, 60, 120, 0);
            taken(61, "many", 2);
            rich();
            shiftFault(4, "run ^0;");
            shiftFault(4, "run ^61;");
            shiftFault(4, "run ^9999;");
        });
        sentence(SECTION, "speed: the MACHINE has another SPEED (1 to 99).", () -> {
            line(2, "machine a speed 5;machine b speed 5;");
            shift(2, "speed a 1;speed b 99;");
            works(2, 0, 0, 0);
            taken(1, "machine", 0, 0);
            taken(99, "machine", 1, 0);
            rich();
            shiftFault(4, "speed a ^0;");
            shiftFault(4, "speed a ^100;");
        });
        sentence(SECTION, "halt n (0 to 99): it has so many minutes to stand. mend: it has none.", () -> {
            line(1, "machine a speed 5;");
            shift(1, "halt a 99;");
            works(1, 0, 0, 0);
            taken(99, "machine", 0, 4);
            taken(0, "run", 99);
            taken(5, "run", 1);
            shift(3, "halt a 9;halt a 0;run 1;");
            works(3, 1, 5, 0);
            shift(3, "halt a 9;mend a;run 1;");
            works(3, 1, 5, 0);
            taken(0, "machine", 0, 4);
            shift(2, "mend a;run 1;");
            works(2, 1, 5, 0);
            shift(2, "halt a 1;run 2;");
            works(2, 2, 5, 0);
            // It mends what was drawn, too.
            line(1, "machine a speed 5 stops 1 lasts 99;");
            taken(0, "run", 1);
            taken(98, "machine", 0, 4);
            works(2, 2, 5, 0);
            shift(2, "mend a;run 1;");
            works(2, 1, 5, 0);
            rich();
            shiftFault(4, "halt a ^100;");
            shiftFault(1, "halt a ^-1;");
        });
    }

    private static void loops() {
        sentence(SECTION, "loop n (1 to 9): the STEPS up to its end are done n times.", () -> {
            shift(2, "loop 1;run 2;end;");
            works(2, 2, 0, 0);
            shift(2, "loop 9;run 2;end;");
            works(10, 18, 0, 0);
            shift(5, "loop 2;run 1;loop 3;run 2;end;run 3;end;");
            works(1 + 2 * (1 + 1 + 3 + 1), 20, 0, 0);
            shift(1, "loop 9;end;");
            works(1, 0, 0, 0);
            shift(3, "loop 9;loop 9;end;end;run 1;");
            works(11, 1, 0, 0);
            shift(4, "loop 2;loop 2;loop 2;run 1;end;end;end;");
            works(1 + 2 + 4 + 8, 8, 0, 0);
            rich();
            shiftFault(4, "loop ^0;end;");
            shiftFault(4, "loop ^10;end;");
        });
    }

    private static void whens() {
        sentence(SECTION, "when: they are done, if the MACHINE was so in the latest MINUTE.", () -> {
            String all = "when a works;run 1;end;when a starved;run 2;end;when a blocked;run 4;end;when a stopped;run 8;end;";
            // There was no MINUTE yet: it was so in none.
            line(1, "machine a speed 5;");
            shift(8, all);
            works(4, 0, 0, 0);
            taken(5, "run", 1);
            works(5, 1, 5, 0);
            taken(1, "begin", 0);
            works(4, 0, 0, 0);
            line(2, "machine z speed 5;machine a speed 9;");
            taken(0, "run", 1);
            works(5, 2, 10, 0);
            line(2, "machine a speed 5;table 0;machine z speed 9;");
            taken(0, "run", 1);
            works(5, 4, 0, 0);
            line(1, "machine a speed 5 stops 64 lasts 1;");
            taken(0, "run", 1);
            works(5, 8, 0, 0);
            // The latest one alone counts: it works again after a minute.
            line(1, "machine a speed 5;");
            shift(4, "halt a 1;run 2;when a stopped;run 9;end;");
            works(3, 2, 5, 0);
            shift(4, "halt a 2;run 2;when a stopped;run 9;end;");
            works(4, 11, 45, 0);
            // A mark that is taken back brings its latest minute.
            taken(1, "mark");
            taken(1, "begin", 0);
            taken(0, "back");
            taken(0, "machine", 0, 5);
        });
        sentence(SECTION, "A NAME that is no MACHINE then: nothing is done, it was not so.", () -> {
            rich();
            shift(7, "speed zz 9;halt zz 9;mend zz;when zz works;run 60;end;when zz stopped;run 60;end;");
            keeps(Witness.allBut(Witness.WORKED), 5, "work");
            works(5, 0, 0, 0);
            // A name of a sort is no machine's.
            shift(2, "speed ale 9;halt wine 9;");
            keeps(Witness.allBut(Witness.WORKED), 2, "work");
            // Then: when it is done, not when it is read.
            line(1, "machine zz speed 1;");
            shift(1, "speed zz 9;");
            line(1, "machine yy speed 1;");
            works(1, 0, 0, 0);
            taken(1, "machine", 0, 0);
            line(1, "machine zz speed 1;");
            works(1, 0, 0, 0);
            taken(9, "machine", 0, 0);
            // All eight letters tell names apart.
            line(2, "machine abcdefgh speed 1;machine abcdefgi speed 1;");
            shift(1, "speed abcdefgi 5;");
            works(1, 0, 0, 0);
            taken(1, "machine", 0, 0);
            taken(5, "machine", 1, 0);
        });
    }

    private static void names() {
        sentence(SECTION, "(NAME here: any WORD of 1 to 8 letters that is none of run, speed, halt, mend, loop, when, end, "
            + "works, starved, blocked, stopped.)", () -> {
            shift(4, "mend a;speed z 1;halt abcdefgh 1;when abcdefgh works;end;");
            rich();
            shiftFault(2, "mend ^abcdefghi;");
            shiftFault(2, "speed ^abcdefghi 1;");
            shiftFault(2, "halt ^abcdefghi 1;");
            shiftFault(2, "when ^abcdefghi works;end;");
            shiftFault(2, "mend ^" + "a".repeat(290) + ";");
            for (String word : SHIFT_WORDS) {
                shiftFault(2, "mend ^" + word + ";");
                shiftFault(2, "speed ^" + word + " 1;");
                shiftFault(2, "halt ^" + word + " 1;");
                shiftFault(2, "when ^" + word + " works;end;");
            }
            shift(9, "mend machine;mend heads;mend stops;mend lasts;mend table;mend sort;mend wash;mend runs;mend ends;");
        });
    }

    private static void faults1and2() {
        sentence(SECTION, "FAULTS of it: 1 and 2 as above (an end without a loop or when; the text's end ahead of an end: "
            + "2).", () -> {
            rich();
            shiftFault(1, "^:");
            shiftFault(1, "run ^12345;");
            shiftFault(1, "run 1^.");
            shiftFault(2, "^end;");
            shiftFault(2, "run 1;^end;");
            shiftFault(2, "loop 1;end;^end;");
            shiftFault(2, "when a works;end;^end;");
            shiftFault(2, "loop 1;^");
            shiftFault(2, "when a works;run 1;  ^");
            shiftFault(2, "loop 1;loop 1;end;^");
            shiftFault(2, "loop 1;loop 1;loop 1;end;end;^");
            shiftFault(2, "loop 1;end^");
            shiftFault(2, "run^");
            shiftFault(2, "run 1^");
            shiftFault(2, "run^;");
            shiftFault(2, "speed^");
            shiftFault(2, "speed a^");
            shiftFault(2, "halt a^");
            shiftFault(2, "halt^");
            shiftFault(2, "mend^");
            shiftFault(2, "mend a^");
            shiftFault(2, "loop^");
            shiftFault(2, "loop 1^");
            shiftFault(2, "when^");
            shiftFault(2, "when a^");
            shiftFault(2, "when a works^");
            shiftFault(2, "when a ^runs;end;");
            shiftFault(2, "when a ^worksx;end;");
            shiftFault(2, "when a ^1;end;");
            shiftFault(2, "^works;");
            shiftFault(2, "^machine a speed 1;");
            shiftFault(2, "^1;");
            shiftFault(2, "^;");
            shiftFault(2, "run 1;^;");
            shiftFault(2, "loop 1;^; end;");
            // Not the word, whichever of its letters is another one.
            for (String step : new String[] {"^fun 1;", "^zpeed a 1;", "^malt a 1;", "^send a;", "^poop 1;end;", "^then a works;end;",
                "loop 1;^and;", "when a ^forks;end;", "when a ^ztarved;end;", "when a ^glocked;end;", "when a ^ztopped;end;",
                "^rum 1;", "when a ^stoppet;end;"}) {
                shiftFault(2, step);
            }
            // The end is where the text is cut, within a number or a word.
            lay("run 61;");
            givesNone("shift", 5);
            taken(2, "fault", 0);
            taken(5, "fault", 1);
            lay("loop 1;ending;");
            givesNone("shift", 10);
            taken(2, "fault", 0);
            taken(10, "fault", 1);
            // The first along the text.
            shiftFault(4, "run ^0;end;!");
            shiftFault(2, "^end;run 0;");
        });
    }

    private static void faults4to6() {
        sentence(SECTION, "4 a NUMBER that can't be.", () -> {
            rich();
            shiftFault(4, "run 60;run ^0061;");
            shiftFault(4, "loop ^10;loop 0;");
            shiftFault(4, "halt a 99;halt a ^100;speed a 0;");
            shiftFault(4, "speed a 99;speed a ^100;");
            shiftFault(4, "speed a ^0000;");
        });
        sentence(SECTION, "5 a loop, a when within three others (at its WORD).", () -> {
            rich();
            String three = "loop 1;when a works;loop 1;";
            shift(3, three + "end;end;end;");
            shiftFault(5, three + "^loop 1;end;end;end;end;");
            shiftFault(5, three + "^when a works;end;end;end;end;");
            shiftFault(5, three + "run 1;^loop");
            shiftFault(5, "when a works;when a works;when a works;^when");
            shiftFault(5, "loop 1;loop 1;loop 1;end;loop 1;^loop 1;");
            // Beside, not within.
            shift(5, "loop 1;loop 1;loop 1;end;loop 1;end;end;end;loop 1;end;");
            shift(4, three + "run 1;end;end;end;");
        });
        sentence(SECTION, "6 a 31st STEP (at its WORD; end is none).", () -> {
            rich();
            shift(30, "run 1;".repeat(30));
            shiftFault(6, "run 1;".repeat(30) + "^run 1;");
            shiftFault(6, "run 1;".repeat(30) + "^loop 1;end;");
            shiftFault(6, "run 1;".repeat(30) + "^mend");
            shiftFault(2, "run 1;".repeat(30) + "^end;");
            shiftFault(2, "run 1;".repeat(30) + "^fill;");
            shiftFault(1, "run 1;".repeat(30) + "^?");
            // Steps within blocks count, too, and blocks; ends do not.
            shift(30, "loop 1;" + "run 1;".repeat(26) + "end;loop 1;end;loop 1;loop 1;end;end;");
            shiftFault(6, "loop 1;" + "run 1;".repeat(29) + "^run 1;end;");
            shiftFault(6, "run 1;".repeat(29) + "loop 1;^run 1;end;");
            // The least kind of one token: a 31st step within three others.
            shiftFault(5, "run 1;".repeat(27) + "loop 1;loop 1;loop 1;^loop 1;");
            shiftFault(6, "run 1;".repeat(28) + "loop 1;loop 1;^loop 1;");
        });
    }

    private static void stepsDone() {
        sentence(SECTION, "DONE are STEPS one by one (loop, when count as one each time they are come to; end does not), at "
            + "most 100", () -> {
            line(1, "machine a speed 1;");
            shift(3, STEPS_91);
            works(91, 81, 81, 0);
            shift(11, STEPS_91 + "mend a;".repeat(8));
            works(99, 81, 81, 0);
            shift(12, STEPS_91 + "mend a;".repeat(9));
            works(100, 81, 81, 0);
            shift(13, STEPS_91 + "mend a;".repeat(9) + "speed a 2;");
            works(100, 81, 81, 1);
            taken(1, "machine", 0, 0);
            // The hundredth is a block: with nothing to be done in it, nothing is left.
            shift(12, STEPS_91 + "mend a;".repeat(8) + "loop 9;end;");
            works(100, 81, 81, 0);
            shift(13, STEPS_91 + "mend a;".repeat(8) + "loop 9;mend a;end;");
            works(100, 81, 81, 1);
            shift(13, STEPS_91 + "mend a;".repeat(8) + "when a stopped;mend a;end;");
            works(100, 81, 81, 0);
            shift(13, STEPS_91 + "mend a;".repeat(8) + "when a works;mend a;end;");
            works(100, 81, 81, 1);
            // The hundredth ends the last round of a loop, or the last but one.
            shift(4, "loop 9;loop 9;run 1;end;mend a;end;");
            works(100, 81, 81, 0);
            shift(5, "run 1;loop 9;loop 9;run 1;end;mend a;end;");
            works(100, 82, 82, 1);
            // Each time they are come to.
            shift(3, "loop 9;when a stopped;mend a;end;end;");
            works(10, 0, 0, 0);
            shift(4, "loop 9;loop 9;loop 9;mend a;end;end;end;");
            works(100, 0, 0, 1);
        });
    }

    private static void minutesDone() {
        sentence(SECTION, "MINUTES, at most 1,000 (a run that would go further goes so far; as soon as there are 1,000, no "
            + "STEP more is done).", () -> {
            line(1, "machine a speed 1;");
            shift(5, MINUTES_960 + "run 39;");
            works(19, 999, 999, 0);
            shift(5, MINUTES_960 + "run 40;");
            works(19, 1_000, 1_000, 0);
            shift(5, MINUTES_960 + "run 41;");
            works(19, 1_000, 1_000, 1);
            shift(6, MINUTES_960 + "run 40;speed a 2;");
            works(19, 1_000, 1_000, 1);
            taken(1, "machine", 0, 0);
            shift(6, MINUTES_960 + "run 39;speed a 2;");
            works(20, 999, 999, 0);
            taken(2, "machine", 0, 0);
            shift(7, MINUTES_960 + "run 39;speed a 1;run 1;");
            works(21, 1_000, 1_999, 0);
            shift(7, MINUTES_960 + "run 39;speed a 1;run 60;");
            works(21, 1_000, 1_000, 1);
            // A block that is not come to is a STEP left, an end is none.
            shift(6, MINUTES_960 + "run 40;when a stopped;end;");
            works(19, 1_000, 1_000, 1);
            shift(6, MINUTES_960 + "loop 1;run 40;end;");
            works(20, 1_000, 1_000, 0);
            shift(6, MINUTES_960 + "loop 2;run 40;end;");
            works(20, 1_000, 1_000, 1);
            // MINUTES that went by ahead of it do not count.
            fresh();
            line(1, "machine a speed 1;");
            taken(600, "run", 600);
            taken(600, "run", 600);
            shift(1, "run 60;");
            works(1, 60, 60, 0);
            taken(1_260, "many", 2);
        });
    }

    private static void withoutMachines() {
        sentence(SECTION, "Without MACHINES the minutes of a run go by all the same.", () -> {
            shift(1, "run 60;");
            works(1, 60, 0, 0);
            taken(60, "many", 2);
            shift(3, "loop 9;loop 9;run 60;end;end;");
            works(20, 1_000, 0, 1);
            taken(1_060, "many", 2);
            taken(0, "many", 3);
            refused(6, "run", 1);
            taken(1_060, "many", 2);
            taken(1, "begin", 5);
            taken(0, "many", 2);
        });
    }
}
