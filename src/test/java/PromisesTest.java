/** Each promise of the document, with answers worked out by hand: ordinary inputs, edges, wrong inputs. */
public final class PromisesTest {
    private static final String TWO = "machine a speed 5;table 3;machine b speed 2;";
    private static final String THREE =
        "machine a speed 10 heads 3;table 15;machine b speed 6 heads 4;table 6;machine c speed 8;"
        + "sort ale;sort wine;sort cider;wash ale wine 5;wash wine cider 2;wash ale cider 9;wash cider wine 20;";

    private static BottleLine x = new BottleLine();
    private static int promise = 0;
    private static int wrong = 0;

    private PromisesTest() {
    }

    public static void main(String[] args) {
        promise1to4();
        promise5to7();
        promise8();
        promise9to12();
        lineFaults();
        shiftFaults();
        promise13to16();
        promise17and18();
        promise19to21();
        drawnStops();
        promise22to24();
        promise25and26();
        promise27and28();
        promise29and30();
        limitsOfWork();
        promise31and32();
        promise33and34();
        promise35and36();
        promise37and38();
        promise39and40();
        promise41and42();
        promise43and44();
        System.out.println("PromisesTest: " + (wrong == 0 ? "all promises hold" : wrong + " answers are not as due"));
        if (wrong != 0) {
            System.exit(1);
        }
    }

    private static void fresh(int next) {
        promise = next;
        x = new BottleLine();
    }

    private static void due(long got, long want) {
        if (got != want) {
            wrong++;
            StackTraceElement[] stack = new Throwable().getStackTrace();
            int k = 0;
            while (stack[k].getMethodName().equals("due") || stack[k].getMethodName().equals("ok")
                || stack[k].getMethodName().equals("no")) {
                k++;
            }
            System.out.println("promise " + promise + ", " + stack[k] + ": answered " + got + ", due is " + want);
        }
    }

    private static void ok(long got, long want) {
        due(got, want);
        due(x.status(), 0);
    }

    private static void ok(boolean got) {
        due(got ? 1 : 0, 1);
        due(x.status(), 0);
    }

    private static void no(int status, long got) {
        due(got, -1);
        due(x.status(), status);
    }

    private static void no(int status, boolean got) {
        due(got ? 1 : 0, 0);
        due(x.status(), status);
    }

    private static void lay(String text) {
        for (long[] f : Real.feeds(text)) {
            x.feed((int) f[0], (int) f[1], (int) f[2], (int) f[3], (int) f[4]);
        }
    }

    private static int line(String text) {
        lay(text);
        return x.line(text.length());
    }

    private static int shift(String text) {
        lay(text);
        return x.shift(text.length());
    }

    private static void row(int tray, long... row) {
        x.tray(tray, 3, row.length);
        for (int k = 0; k < row.length; k++) {
            x.write(tray, k, row[k]);
        }
    }

    private static void fraction(long top, long bottom) {
        due(x.top(), top);
        due(x.bottom(), bottom);
    }

    private static void promise1to4() {
        fresh(1);
        due(x.status(), 0);
        fraction(0, 1);
        ok(x.many(0), 0);
        ok(x.many(1), 0);
        ok(x.many(2), 0);
        ok(x.many(3), 0);
        for (int k = 0; k < 4; k++) {
            no(2, x.read(k, 0));
        }
        no(1, x.line(1));
        no(6, x.back());
        due(x.fault(0), -1);
        due(x.fault(1), -1);
        ok(x.work(), 0);
        due(BottleLine.NONE, -1);
        promise = 2;
        no(1, x.read(4, 0));
        due(x.feed(0, 0, 0, 0, 0), 20);
        due(x.fault(0), -1);
        fraction(0, 1);
        due(x.status(), 1);
        due(x.status(), 1);
        promise = 3;
        row(0, -1, -1, 20, -1, -1, -1, -1);
        ok(x.torn(0, 7, 29));
        due(x.top(), 3);
        promise = 4;
        due(x.bottom(), 2);
        no(1, x.torn(0, 0, 5));
        fraction(3, 2);
    }

    private static void promise5to7() {
        fresh(5);
        no(1, x.tray(-1, 0, 1));
        no(1, x.tray(4, 0, 1));
        no(1, x.tray(0, -1, 1));
        no(1, x.tray(0, 4, 1));
        no(1, x.tray(0, 0, -1));
        no(1, x.tray(0, 0, 61));
        no(2, x.read(0, 0));
        ok(x.tray(0, 3, 60));
        ok(x.read(0, 59), 0);
        no(3, x.read(0, 60));
        ok(x.write(0, 1, 5));
        ok(x.tray(0, 1, 2));
        ok(x.read(0, 1), 0);
        no(3, x.read(0, 2));
        ok(x.tray(0, 1, 0));
        no(3, x.read(0, 0));
        promise = 6;
        long[] given = {200, 256, -129, 40_000, 1L << 31, 1L << 32, Long.MIN_VALUE, -1};
        long[][] kept = {
            {-56, 0, 127, 64, 0, 0, 0, -1},
            {200, 256, -129, -25_536, 0, 0, 0, -1},
            {200, 256, -129, 40_000, -(1L << 31), 0, 0, -1},
            given,
        };
        for (int sort = 0; sort < 4; sort++) {
            ok(x.tray(sort, sort, 8));
            for (int k = 0; k < 8; k++) {
                ok(x.write(sort, k, given[k]));
                ok(x.read(sort, k), kept[sort][k]);
            }
        }
        no(1, x.write(-1, 0, 1));
        no(1, x.write(4, 0, 1));
        no(3, x.write(0, -1, 1));
        no(3, x.write(0, 8, 1));
        fresh(7);
        no(2, x.write(0, -1, 1));
        no(2, x.read(0, -1));
        ok(x.tray(3, 2, 3));
        ok(x.write(3, 2, -1));
        ok(x.read(3, 2), -1);
        no(3, x.read(3, 3));
        no(3, x.read(3, -1));
        no(1, x.read(4, 0));
        no(1, x.read(-1, 0));
    }

    private static void holds(int tray, long... row) {
        for (int k = 0; k < row.length; k++) {
            ok(x.read(tray, k), row[k]);
        }
    }

    private static void promise8() {
        fresh(8);
        no(1, x.pour(-1, 0, 1, 0, 0));
        no(1, x.pour(0, 0, 4, 0, 0));
        no(1, x.pour(0, -1, 1, 0, 0));
        no(1, x.pour(0, 0, 1, -1, 0));
        no(1, x.pour(0, 0, 1, 0, -1));
        no(2, x.pour(0, 0, 1, 0, 9));
        row(0, 1, 2, 3, 4, 5);
        no(2, x.pour(0, 0, 1, 0, 9));
        no(2, x.pour(1, 0, 0, 0, 9));
        ok(x.tray(1, 2, 5));
        no(8, x.pour(0, 0, 1, 0, 9));
        ok(x.tray(1, 3, 4));
        no(3, x.pour(0, 0, 1, 0, 5));
        no(3, x.pour(0, 4, 1, 0, 2));
        no(3, x.pour(0, 2, 1, 3, 2));
        no(3, x.pour(0, Integer.MAX_VALUE, 1, 0, Integer.MAX_VALUE));
        no(3, x.pour(0, 0, 1, Integer.MAX_VALUE, 1));
        holds(1, 0, 0, 0, 0);
        ok(x.pour(0, 2, 1, 1, 3));
        holds(1, 0, 3, 4, 5);
        ok(x.pour(0, 0, 0, 1, 4));
        holds(0, 1, 1, 2, 3, 4);
        ok(x.pour(0, 1, 0, 0, 4));
        holds(0, 1, 2, 3, 4, 4);
        ok(x.pour(0, 5, 1, 4, 0));
        no(3, x.pour(0, 6, 1, 0, 0));
    }

    private static void promise9to12() {
        fresh(9);
        no(1, x.read(9, 9));
        for (int k = 1; k <= 35; k++) {
            due(x.feed(0x736f7274, 0x20616c65, 0x3b202020, 0x20202020, 0x20202020), 20 * k);
        }
        due(x.feed(0, 0, 0, 0, 0), -1);
        due(x.status(), 1);
        no(1, x.line(701));
        ok(x.line(20), 0);
        ok(x.many(1), 1);
        due(x.feed(0, 0, 0, 0, 0), 20);
        promise = 10;
        fresh(10);
        lay(TWO);
        no(1, x.line(-1));
        no(1, x.line(61));
        due(x.fault(0), -1);
        ok(x.line(TWO.length()), 2);
        no(1, x.line(1));
        due(x.fault(0), 0);
        due(x.fault(1), -1);
        ok(x.run(5), 8);
        no(9, line("machine b speed 5; x"));
        ok(x.many(0), 2);
        ok(x.many(2), 5);
        no(1, x.line(1));
        due(x.fault(0), 2);
        due(x.fault(1), 19);
        ok(x.begin(77));
        ok(line("machine z speed 5;"), 1);
        ok(x.many(2), 0);
        no(6, x.machine(0, 5));
        ok(line(""), 0);
        ok(x.many(0), 0);
        promise = 11;
        no(1, x.shift(1));
        String blanks = " ".repeat(293);
        lay("run 10;" + blanks + " ");
        no(1, x.shift(301));
        no(1, x.shift(-1));
        ok(x.shift(300), 1);
        no(1, x.shift(1));
        no(9, shift("run 10; run"));
        ok(x.work(), 1);
        ok(shift("loop 2;when a works;end;end;"), 2);
        ok(shift(""), 0);
        ok(x.work(), 0);
        promise = 12;
        due(x.fault(0), 0);
        due(x.fault(1), -1);
        no(9, shift("run 61;"));
        ok(x.many(0), 0);
        due(x.fault(0), 4);
        due(x.fault(1), 4);
        due(x.fault(2), -1);
        due(x.fault(-1), -1);
        ok(line("sort a;"), 0);
        due(x.fault(0), 0);
        due(x.fault(1), -1);
    }

    private static void lineFault(String text, int kind, int place) {
        no(9, line(text));
        due(x.fault(0), kind);
        due(x.fault(1), place);
    }

    private static void lineFaults() {
        fresh(10);
        lineFault("Machine a speed 5;", 1, 0);
        lineFault("machine a speed 5,", 1, 17);
        lineFault("machine 12345 speed 5;", 1, 8);
        lineFault("machine a speed 5;\t", 1, 18);
        lineFault("machine a speed 5;\u00e4", 1, 18);
        lineFault("machine a speed 5;\u0000", 1, 18);
        lineFault("machine", 2, 7);
        lineFault("machine  ", 2, 9);
        lineFault("machine a", 2, 9);
        lineFault(";", 2, 0);
        lineFault("machine a speed;", 2, 15);
        lineFault("machine a speed 5 6;", 2, 18);
        lineFault("machine a speed 5 lasts 6;", 2, 18);
        lineFault("machine a speed 5 stops 6 heads 5;", 2, 26);
        lineFault("machine a speed 5;table x;", 2, 24);
        lineFault("sort table;", 2, 5);
        lineFault("sort abcdefghi;", 2, 5);
        lineFault("sort a;wash a abcdefghi 4;", 2, 14);
        lineFault("sort a;wash a sort 4;", 2, 14);
        lineFault("sort a;wash sort a 4;", 2, 12);
        lineFault("sort a;sort b;wash a b;", 2, 22);
        lineFault("machine a speed 5;machine a x;", 3, 26);
        lineFault("sort a;sort b;sort b", 3, 19);
        lineFault("sort a;wash b a 4;", 3, 12);
        lineFault("sort a;wash a b 4;sort b;", 3, 14);
        lineFault("machine a speed 5;wash a a 1;", 3, 23);
        lineFault("machine a speed 100;", 4, 16);
        lineFault("machine a speed 0000;", 4, 16);
        lineFault("machine a speed 5 heads 0;", 4, 24);
        lineFault("machine a speed 5 heads 25;", 4, 24);
        lineFault("machine a speed 5 stops 65 lasts 1;", 4, 24);
        lineFault("sort a;sort b;wash a b 1000;", 4, 23);
        lineFault("machine a speed 1;machine b speed 1;machine c speed 1;machine d speed 1;machine e speed 1;"
            + "machine f speed 1;machine 1", 6, 108);
        lineFault("machine a speed 5 stops 5 lasts 0;", 4, 32);
        lineFault("machine a speed 5 stops 5 lasts 100;", 4, 32);
        lineFault("machine a speed 5;table 1000;", 4, 24);
        lineFault("machine a speed 5 stops 1 lasts 1 heads 2 stops", 5, 42);
        lineFault("machine a speed 5 heads 2 stops 1 lasts 1 heads", 5, 42);
        lineFault("machine a speed 5;table 1;sort a;table", 5, 33);
        lineFault("sort a;table 5;", 5, 7);
        lineFault("sort a;wash a a", 5, 14);
        lineFault("sort a;sort b;wash a b 0;wash b a 1;wash a b", 5, 43);
        lineFault("sort a;sort b;sort c;sort d;sort e;sort f;sort g;sort 5", 6, 49);
        ok(x.many(0), 0);
        ok(line("machine speeda speed0099heads24 stops 64\nlasts 99;table 0;machine b speed 1 heads 1 stops 0 lasts 1"
            + ";table 999;machine c speed 1;machine d speed 1;machine e speed 1;"
            + "machine abcdefgh speed 1;table 7;sort a;sort abcdefgh;sort c;sort d;sort e;sort f;sort g;"
            + "wash a c 0;wash c a 999;"), 6);
        ok(x.many(1), 7);
        ok(x.machine(0, 0), 99);
        ok(x.machine(0, 1), 24);
        ok(x.machine(0, 2), 64);
        ok(x.machine(0, 3), 99);
        ok(x.machine(1, 1), 1);
        ok(x.machine(1, 2), 0);
        ok(x.machine(1, 3), 1);
        ok(x.table(0, 0), 0);
        ok(x.table(1, 0), 999);
        ok(x.table(2, 0), 20);
        no(1, x.table(5, 0));
        ok(x.wash(0, 2), 0);
        ok(x.wash(2, 0), 999);
        ok(x.wash(0, 1), 10);
    }

    private static void shiftFault(String text, int kind, int place) {
        no(9, shift(text));
        due(x.fault(0), kind);
        due(x.fault(1), place);
    }

    private static void shiftFaults() {
        fresh(11);
        shiftFault("run 5;!", 1, 6);
        shiftFault("run 00005;", 1, 4);
        shiftFault("table 5;", 2, 0);
        shiftFault("run a;", 2, 4);
        shiftFault("run 5", 2, 5);
        shiftFault("end;", 2, 0);
        shiftFault("loop 2;run 1;", 2, 13);
        shiftFault("loop 2;end", 2, 10);
        shiftFault("loop 2;end;end;", 2, 11);
        shiftFault("speed a;", 2, 7);
        shiftFault("halt 5 a;", 2, 5);
        shiftFault("mend works;", 2, 5);
        shiftFault("mend blocked;", 2, 5);
        shiftFault("mend starved;", 2, 5);
        shiftFault("mend stopped;", 2, 5);
        shiftFault("mend end;", 2, 5);
        shiftFault("mend mend;", 2, 5);
        shiftFault("mend when;", 2, 5);
        shiftFault("mend loop;", 2, 5);
        shiftFault("mend halt;", 2, 5);
        shiftFault("mend speed;", 2, 5);
        shiftFault("mend run;", 2, 5);
        shiftFault("mend abcdefghi;", 2, 5);
        shiftFault("when a sleeps;end;", 2, 7);
        shiftFault("when works works;end;", 2, 5);
        shiftFault("when a;end;", 2, 6);
        shiftFault("speed a 0;", 4, 8);
        shiftFault("speed a 100;", 4, 8);
        shiftFault("halt a 100;", 4, 7);
        shiftFault("loop 0;", 4, 5);
        shiftFault("loop 10;", 4, 5);
        shiftFault("loop 1;when a works;loop 2;loop", 5, 27);
        shiftFault("loop 1;when a works;loop 2;when", 5, 27);
        shiftFault("run 1;".repeat(30) + "run", 6, 180);
        shiftFault("run 1;".repeat(27) + "loop 1;loop 1;loop 1;loop", 5, 183);
        ok(shift("run 1;".repeat(27) + "loop 1;loop 1;loop 1;end;end;end;"), 30);
        ok(shift("halt a 0;halt machine 99;mend table;speed sort 1;speed abcdefgh 99;run 60;loop 9;end;"
            + "when a starved;end;when a blocked;end;when a stopped;end;when\na works ; end ;"), 11);
        ok(shift("loop 1;loop 1;loop 1;end;loop 1;end;end;loop 1;end;end;loop 1;end;"), 6);
    }

    private static void promise13to16() {
        fresh(13);
        ok(line(THREE), 3);
        ok(x.many(0), 3);
        ok(x.many(1), 3);
        ok(x.run(4), 12);
        ok(x.many(2), 4);
        ok(x.many(3), 12);
        no(1, x.many(-1));
        no(1, x.many(4));
        promise = 14;
        ok(x.machine(0, 0), 10);
        ok(x.machine(1, 1), 4);
        ok(x.machine(2, 1), 1);
        ok(x.machine(0, 5), 2);
        ok(x.machine(1, 5), 0);
        ok(x.machine(2, 5), 1);
        ok(x.machine(0, 6), 33);
        ok(x.machine(1, 6), 18);
        ok(x.machine(0, 4), 0);
        no(1, x.machine(-1, 0));
        no(1, x.machine(3, 0));
        no(1, x.machine(0, -1));
        no(1, x.machine(0, 7));
        ok(shift("halt b 9;run 2;"), 2);
        ok(x.work(), 2);
        ok(x.machine(1, 4), 7);
        ok(x.machine(1, 5), 3);
        ok(x.begin(3));
        no(6, x.machine(1, 5));
        no(1, x.machine(3, 5));
        promise = 15;
        ok(x.run(4), 12);
        ok(x.table(0, 0), 15);
        ok(x.table(0, 1), 15);
        ok(x.table(1, 0), 6);
        ok(x.table(1, 1), 6);
        no(1, x.table(2, 0));
        no(1, x.table(-1, 0));
        no(1, x.table(0, 2));
        no(1, x.table(0, -1));
        promise = 16;
        ok(x.wash(0, 1), 5);
        ok(x.wash(1, 0), 10);
        ok(x.wash(2, 1), 20);
        no(1, x.wash(1, 1));
        no(1, x.wash(3, 1));
        no(1, x.wash(1, 3));
        no(1, x.wash(-1, 1));
        no(1, x.wash(1, -1));
    }

    private static void promise17and18() {
        fresh(17);
        ok(x.begin(0));
        ok(x.begin(9_999));
        no(1, x.begin(-1));
        no(1, x.begin(10_000));
        promise = 18;
        no(6, x.run(600));
        no(1, x.run(0));
        no(1, x.run(601));
        ok(line(TWO), 2);
        no(1, x.run(601));
        no(1, x.run(-5));
        ok(x.many(2), 0);
        ok(x.run(10), 18);
        ok(x.run(1), 2);
        ok(x.machine(0, 6), 23);
        ok(x.run(600), 1200);
        ok(x.many(3), 1220);
        ok(x.many(2), 611);
        promise = 17;
        ok(shift("speed b 3;halt a 50;"), 2);
        ok(x.work(), 2);
        ok(x.begin(9));
        ok(x.many(2), 0);
        ok(x.many(3), 0);
        ok(x.table(0, 1), 0);
        ok(x.machine(0, 4), 0);
        ok(x.machine(0, 6), 0);
        ok(x.minutes(0, 2), 0);
        ok(x.blame(0, 1), 0);
        ok(x.machine(1, 0), 3);
        ok(x.run(3), 6);
        ok(line("machine a speed 7;"), 1);
        ok(x.run(3), 21);
    }

    private static void promise19to21() {
        fresh(19);
        no(1, x.minutes(0, 0));
        ok(line(TWO), 2);
        ok(x.run(10), 18);
        ok(x.minutes(0, 0), 0);
        ok(x.minutes(0, 1), 0);
        ok(x.minutes(0, 2), 10);
        ok(x.minutes(0, 3), 0);
        ok(x.minutes(1, 0), 9);
        ok(x.minutes(1, 1), 1);
        no(1, x.minutes(2, 0));
        no(1, x.minutes(-1, 0));
        no(1, x.minutes(0, 4));
        no(1, x.minutes(0, -1));
        promise = 20;
        ok(x.blame(0, 1), 10);
        ok(x.blame(1, 0), 1);
        ok(x.blame(0, 0), 0);
        no(1, x.blame(0, 2));
        no(1, x.blame(2, 0));
        no(1, x.blame(-1, 0));
        no(1, x.blame(0, -1));
        // What lies ahead is as much as the room behind and less than the speed: starved, not blocked.
        ok(line("machine a speed 3;table 10;machine b speed 5;table 3;machine c speed 1;"), 3);
        ok(x.run(2), 0);
        ok(x.machine(1, 5), 1);
        ok(x.table(1, 1), 3);
        ok(x.blame(2, 0), 2);
        ok(x.blame(1, 0), 2);
        ok(x.run(1), 1);
        ok(x.machine(1, 5), 2);
        ok(x.blame(1, 2), 1);
        // A row of blocked ones blames the one behind them all.
        ok(line("machine a speed 9;table 9;machine b speed 9;table 9;machine c speed 9;table 9;machine d speed 1;"), 4);
        ok(x.run(20), 17);
        ok(x.blame(0, 3), 17);
        ok(x.blame(1, 3), 17);
        ok(x.blame(2, 3), 17);
        ok(x.blame(3, 0), 1);
        ok(x.blame(3, 1), 1);
        ok(x.blame(3, 2), 1);
        // With little room all starve but the first, and it blames the one behind it.
        ok(line("machine a speed 9;table 1;machine b speed 9;table 1;machine c speed 9;table 1;machine d speed 1;"), 4);
        ok(x.run(20), 17);
        ok(x.blame(0, 1), 20);
        ok(x.blame(2, 0), 20);
        ok(x.blame(3, 0), 3);
        promise = 21;
        ok(line(TWO), 2);
        no(6, x.share(0));
        no(1, x.share(2));
        no(1, x.share(-1));
        ok(x.run(10), 18);
        ok(x.share(1));
        fraction(9, 10);
        ok(x.run(2), 4);
        no(1, x.share(2));
        fraction(9, 10);
        ok(x.share(0));
        fraction(0, 1);
        ok(x.begin(0));
        ok(x.run(3), 4);
        ok(x.run(3), 6);
        ok(x.begin(0));
        ok(x.run(2), 2);
        ok(x.share(1));
        fraction(1, 2);
    }

    /** From seed 0 the draws by 64 are 0, 37, 34, 1, 3 ..: s is 12289, 44334, 63255, 51724, 20509. */
    private static void drawnStops() {
        fresh(18);
        ok(line("machine a speed 5 stops 1 lasts 1;"), 1);
        ok(x.run(1), 0);
        ok(x.machine(0, 5), 3);
        ok(x.machine(0, 4), 0);
        ok(x.run(4), 20);
        ok(line("machine a speed 5 stops 37 lasts 3;"), 1);
        ok(x.run(1), 0);
        ok(x.machine(0, 4), 2);
        ok(x.run(2), 0);
        ok(x.machine(0, 4), 0);
        // The second draw, 37, is not less than 37; the third, 34, is.
        ok(x.run(1), 5);
        ok(x.run(1), 0);
        ok(x.minutes(0, 3), 4);
        // Each machine draws in its turn: a the first and third, b the second and fourth.
        ok(line("machine a speed 5 stops 35 lasts 1;machine b speed 5 stops 37 lasts 1;"), 2);
        ok(x.run(2), 0);
        ok(x.minutes(0, 3), 2);
        ok(x.minutes(1, 3), 1);
        ok(x.minutes(1, 1), 1);
        ok(x.blame(1, 0), 1);
        ok(line("machine a speed 5 stops 64 lasts 9;"), 1);
        ok(x.run(600), 0);
        ok(x.minutes(0, 3), 600);
        ok(line("machine a speed 5 stops 0 lasts 9;"), 1);
        ok(x.run(600), 3000);
        // A machine that stands does not draw.
        ok(line("machine a speed 5 stops 37 lasts 2;machine b speed 5;"), 2);
        ok(x.run(3), 0);
        ok(x.minutes(0, 3), 2);
        ok(x.minutes(0, 0), 1);
        // From seed 5: s is 29154, the draw 60.
        ok(line("machine a speed 5 stops 60 lasts 1;"), 1);
        ok(x.begin(5));
        ok(x.run(1), 5);
        ok(line("machine a speed 5 stops 61 lasts 1;"), 1);
        ok(x.begin(5));
        ok(x.run(1), 0);
    }

    private static void promise22to24() {
        fresh(22);
        no(1, x.tried(0, 1, 1));
        promise = 24;
        no(6, x.gained());
        ok(line(TWO), 2);
        ok(x.run(10), 18);
        promise = 22;
        ok(x.tried(1, 2, 2), 4);
        ok(x.tried(1, 5, 2), 6);
        ok(x.tried(1, 99, 600), 1800);
        ok(x.tried(0, 1, 4), 6);
        ok(x.tried(0, 5, 1), 2);
        no(1, x.tried(2, 5, 1));
        no(1, x.tried(-1, 5, 1));
        no(1, x.tried(0, 0, 1));
        no(1, x.tried(0, 100, 1));
        no(1, x.tried(0, 5, 0));
        no(1, x.tried(0, 5, 601));
        ok(x.many(2), 10);
        ok(x.many(3), 18);
        ok(x.machine(0, 0), 5);
        ok(x.table(0, 1), 3);
        promise = 23;
        no(1, x.holder(0, 4));
        no(1, x.holder(21, 4));
        no(1, x.holder(1, 0));
        no(1, x.holder(1, 601));
        ok(x.tried(1, 3, 1), 3);
        promise = 24;
        no(6, x.gained());
        promise = 23;
        ok(x.holder(1, 4), 1);
        promise = 24;
        ok(x.gained(), 4);
        no(1, x.holder(0, 4));
        ok(x.gained(), 4);
        promise = 23;
        ok(x.holder(1, 1), 1);
        ok(x.gained(), 1);
        ok(x.holder(20, 600), 1);
        ok(x.gained(), 600);
        ok(x.many(2), 10);
        ok(x.machine(1, 0), 2);
        // With none that helps it is the first; 99 is the most there is.
        ok(line("machine a speed 99;table 99;machine b speed 98;"), 2);
        ok(x.run(5), 392);
        ok(x.holder(20, 5), 1);
        ok(x.gained(), 5);
        ok(line("machine a speed 2;table 0;machine b speed 2;"), 2);
        ok(x.holder(1, 5), 0);
        ok(x.gained(), 0);
        ok(line(""), 0);
        no(6, x.holder(1, 5));
        no(1, x.holder(0, 5));
        ok(x.gained(), 0);
    }

    private static void promise25and26() {
        fresh(25);
        no(6, x.shared(1, 1, 1));
        no(1, x.shared(9, 1, 1));
        ok(line("machine a speed 5;"), 1);
        no(6, x.shared(1, 1, 1));
        promise = 26;
        no(6, x.unit(-1));
        no(6, x.unit(0));
        promise = 25;
        ok(line("machine a speed 5;table 1;machine b speed 2;"), 2);
        no(1, x.shared(-1, 1, 1));
        no(1, x.shared(9, 1, 1));
        no(1, x.shared(1, 0, 1));
        no(1, x.shared(1, 100, 1));
        no(1, x.shared(1, 1, 0));
        no(1, x.shared(1, 1, 201));
        promise = 26;
        no(6, x.unit(0));
        promise = 25;
        ok(x.shared(3, 2, 10), 18);
        promise = 26;
        ok(x.unit(0), 3);
        no(1, x.unit(1));
        no(1, x.unit(-1));
        promise = 25;
        ok(x.table(0, 0), 1);
        ok(x.many(2), 0);
        // Units take the place of the room that a table has; of ways alike the fewer ahead.
        ok(line("machine a speed 1;machine b speed 1;machine c speed 1;"), 3);
        ok(x.shared(4, 1, 10), 8);
        ok(x.unit(0), 1);
        ok(x.unit(1), 3);
        ok(x.shared(0, 99, 200), 0);
        ok(x.unit(0), 0);
        ok(x.unit(1), 0);
        ok(x.shared(1, 99, 200), 0);
        ok(x.unit(0), 0);
        ok(x.unit(1), 1);
        ok(line(""), 0);
        no(6, x.shared(1, 99, 200));
        ok(x.unit(1), 1);
        no(1, x.unit(2));
        // Begun anew with the latest seed, with speeds as the shift made them.
        ok(line("machine a speed 3 stops 20 lasts 2;table 8;machine b speed 3;"), 2);
        ok(shift("speed b 2;run 7;halt a 9;"), 3);
        ok(x.begin(1234));
        ok(x.work(), 3);
        ok(x.begin(5));
        int made = x.run(50);
        ok(x.run(3) > 0 ? 1 : 0, 1);
        ok(shift("halt a 9;"), 1);
        ok(x.work(), 1);
        ok(x.shared(1, 8, 50), made);
        ok(x.machine(0, 4), 9);
        // Six machines: a table of each one bottle is needed by all.
        ok(line("machine a speed 1;machine b speed 1;machine c speed 1;machine d speed 1;machine e speed 1;"
            + "machine f speed 2;"), 6);
        ok(x.shared(8, 1, 200), 195);
        int[] units = {1, 1, 1, 1, 4};
        for (int k = 0; k < 5; k++) {
            ok(x.unit(k), units[k]);
        }
        ok(x.shared(4, 99, 200), 0);
        ok(x.unit(4), 4);
    }

    private static void promise27and28() {
        fresh(27);
        no(1, x.waits(0, 0, 1));
        promise = 28;
        no(1, x.unwaited(0, 1));
        ok(line("machine a speed 5;table 20;machine b speed 2;"), 2);
        promise = 27;
        ok(x.waits(1, 0, 5), 1);
        ok(x.waits(0, 0, 600), 594);
        ok(x.run(20), 38);
        ok(x.waits(0, 0, 600), 600);
        ok(x.waits(0, 2, 9), 9);
        ok(x.waits(0, 3, 9), 0);
        ok(x.waits(0, 20, 1), 0);
        ok(x.waits(1, 20, 600), 0);
        no(1, x.waits(2, 0, 5));
        no(1, x.waits(-1, 0, 5));
        no(1, x.waits(0, -1, 5));
        no(1, x.waits(0, 21, 5));
        no(1, x.waits(0, 0, 0));
        no(1, x.waits(0, 0, 601));
        promise = 28;
        ok(x.unwaited(0, 5), 3);
        ok(x.unwaited(1, 200), 0);
        ok(x.unwaited(0, 1), 3);
        no(1, x.unwaited(2, 5));
        no(1, x.unwaited(-1, 5));
        no(1, x.unwaited(0, 0));
        no(1, x.unwaited(0, 201));
        ok(x.many(2), 20);
        ok(x.machine(1, 0), 2);
        ok(x.minutes(0, 2), 14);
        ok(line("machine a speed 25;table 25;machine b speed 5;"), 2);
        ok(x.run(30), 145);
        ok(x.unwaited(0, 5), 20);
        ok(line("machine a speed 26;table 26;machine b speed 5;"), 2);
        ok(x.run(30), 145);
        no(6, x.unwaited(0, 5));
        // Ninety-nine is the most.
        ok(line("machine a speed 90;table 999;machine b speed 99;"), 2);
        ok(x.waits(1, 20, 9), 1);
        // A stopped machine does not wait.
        ok(line("machine a speed 5 stops 64 lasts 9;table 0;machine b speed 2;"), 2);
        ok(x.waits(0, 0, 50), 0);
        ok(x.unwaited(0, 50), 0);
        no(6, x.unwaited(1, 50));
    }

    private static void worked(int minutes, int made, int left) {
        ok(x.worked(0), minutes);
        ok(x.worked(1), made);
        ok(x.worked(2), left);
    }

    private static void promise29and30() {
        fresh(30);
        no(6, x.worked(0));
        no(1, x.worked(3));
        no(1, x.worked(-1));
        promise = 29;
        ok(x.work(), 0);
        worked(0, 0, 0);
        // Without machines minutes go by all the same.
        ok(shift("run 60;when a works;run 1;end;speed a 5;"), 4);
        ok(x.work(), 3);
        worked(60, 0, 0);
        ok(x.many(2), 60);
        ok(line("machine a speed 3;"), 1);
        ok(shift("when a works;run 1;end;run 1;when a works;run 2;end;when a stopped;run 60;end;"), 7);
        ok(x.work(), 5);
        worked(3, 9, 0);
        promise = 29;
        ok(shift("halt a 2;run 3;halt a 5;run 1;mend a;run 1;speed a 9;run 1;speed b 5;halt b 7;mend b;"), 11);
        ok(x.begin(0));
        ok(x.work(), 11);
        worked(6, 15, 0);
        ok(x.minutes(0, 3), 3);
        ok(x.machine(0, 0), 9);
        ok(shift("halt a 0;run 1;when a starved;run 9;end;when a blocked;run 9;end;halt a 1;run 1;when a stopped;loop 2;run 2;end;end;"), 11);
        ok(x.work(), 10);
        worked(6, 45, 0);
        ok(line(TWO), 2);
        ok(shift("run 1;when b starved;when a blocked;run 1;end;end;when b blocked;run 9;end;"), 6);
        ok(x.work(), 5);
        worked(2, 2, 0);
        // A name is looked up when the shift is done.
        ok(shift("speed zz 7;"), 1);
        ok(line("machine zz speed 1;"), 1);
        ok(x.work(), 1);
        ok(x.machine(0, 0), 7);
        ok(line("machine yy speed 1;"), 1);
        ok(x.work(), 1);
        ok(x.machine(0, 0), 1);
        promise = 30;
        no(1, x.worked(3));
        no(1, x.worked(-1));
        ok(x.run(9), 9);
        worked(0, 0, 0);
    }

    private static void limitsOfWork() {
        fresh(29);
        ok(line("machine a speed 1;"), 1);
        String ninetyOne = "loop 9;loop 9;run 1;end;end;";
        ok(shift(ninetyOne), 3);
        ok(x.work(), 91);
        worked(81, 81, 0);
        ok(shift("loop 9;loop 9;loop 9;run 1;end;end;end;"), 4);
        ok(x.work(), 100);
        worked(87, 87, 1);
        ok(shift(ninetyOne + "run 1;".repeat(9)), 12);
        ok(x.work(), 100);
        worked(90, 90, 0);
        ok(shift(ninetyOne + "run 1;".repeat(10)), 13);
        ok(x.work(), 100);
        worked(90, 90, 1);
        // The hundredth step is a block: an empty one leaves nothing, one that is not done neither.
        ok(shift(ninetyOne + "run 1;".repeat(8) + "loop 9;end;"), 12);
        ok(x.work(), 100);
        worked(89, 89, 0);
        ok(shift(ninetyOne + "run 1;".repeat(8) + "loop 9;mend a;end;"), 13);
        ok(x.work(), 100);
        worked(89, 89, 1);
        ok(shift(ninetyOne + "run 1;".repeat(8) + "when a starved;mend a;end;"), 13);
        ok(x.work(), 100);
        worked(89, 89, 0);
        ok(shift(ninetyOne + "run 1;".repeat(8) + "when a works;mend a;end;"), 13);
        ok(x.work(), 100);
        worked(89, 89, 1);
        ok(shift(ninetyOne + "run 1;".repeat(7) + "when a works;mend a;end;"), 12);
        ok(x.work(), 100);
        worked(88, 88, 0);
        // The hundredth step ends a round of a loop.
        ok(shift("loop 9;loop 9;run 1;end;mend a;end;"), 4);
        ok(x.work(), 100);
        worked(81, 81, 0);
        String minutes960 = "loop 9;run 60;end;loop 7;run 60;end;";
        ok(shift(minutes960 + "run 40;"), 5);
        ok(x.work(), 19);
        worked(1000, 1000, 0);
        ok(shift(minutes960 + "run 41;"), 5);
        ok(x.work(), 19);
        worked(1000, 1000, 1);
        ok(shift(minutes960 + "run 40;speed a 2;"), 6);
        ok(x.work(), 19);
        worked(1000, 1000, 1);
        ok(x.machine(0, 0), 1);
        ok(shift(minutes960 + "run 39;speed a 2;run 2;"), 7);
        ok(x.work(), 21);
        worked(1000, 1001, 1);
        ok(line(""), 0);
        ok(shift("loop 9;loop 9;run 60;end;end;"), 3);
        ok(x.work(), 20);
        worked(1000, 0, 1);
        ok(x.many(2), 1000);
        // Blocks without a step within are passed by.
        ok(shift("loop 9;loop 9;loop 9;end;end;end;"), 3);
        ok(x.work(), 91);
        worked(0, 0, 0);
    }

    private static void heads(int sets, int... first) {
        ok(x.head(0), sets);
        for (int k = 0; k < 4; k++) {
            if (k < first.length) {
                ok(x.head(k + 1), first[k]);
            } else {
                no(6, x.head(k + 1));
            }
        }
    }

    private static void promise31and32() {
        fresh(31);
        promise = 32;
        no(6, x.head(0));
        no(1, x.head(5));
        no(1, x.head(-1));
        promise = 31;
        no(2, x.heads(9, 0, 0));
        no(1, x.heads(0, 0, 0));
        no(1, x.heads(10_000, 0, 0));
        no(1, x.heads(9, 4, 0));
        no(1, x.heads(9, -1, 0));
        no(1, x.heads(9, 0, -1));
        no(1, x.heads(9, 0, 61));
        row(0, 1, 4, 7);
        no(6, x.heads(9, 0, 3));
        ok(x.heads(9, 0, 0), 0);
        heads(1);
        ok(line("machine a speed 1;machine b speed 1 heads 3;machine c speed 1 heads 2;machine d speed 1 heads 6;"), 4);
        ok(x.heads(9, 0, 3), 1);
        heads(1, 1, 1);
        no(3, x.heads(9, 0, 4));
        no(5, x.heads(7, 0, 3));
        ok(x.heads(8, 0, 3), 1);
        heads(1, 1, 1);
        no(6, x.heads(9, 0, 2));
        heads(1, 1, 1);
        // The second one comes of a single head as well as of two: fewest heads count.
        row(1, 0, 2, 4);
        ok(x.heads(6, 1, 3), 1);
        heads(1, 2, 0);
        row(1, 0, 3);
        ok(x.heads(6, 1, 2), 1);
        heads(1, 1, 0);
        row(1, 1, 2);
        ok(x.heads(3, 1, 2), 2);
        // Of three bottles: b1, c1, d1 are under bottle 1; b2, d2 under 2; c0 is under 0 and 2.
        heads(6, 1, 1, 1, 2);
        row(1, 0, 1, 2, 3, 4, 5);
        ok(x.heads(6, 1, 6), 2);
        heads(1, 2, 0, 2, 1);
        no(6, x.heads(7, 1, 6));
        row(1, 2, 2);
        no(5, x.heads(6, 1, 2));
        row(1, 3, 2);
        no(5, x.heads(6, 1, 2));
        row(1, -1, 2);
        no(5, x.heads(6, 1, 2));
        heads(1, 2, 0, 2, 1);
        row(1, 0);
        ok(x.heads(1, 1, 1), 1);
        heads(3, 1, 0);
        // Sixty wrong ones of 1,440 bottles, under the last of 24 heads.
        ok(line("machine a speed 1 heads 24;"), 1);
        x.tray(2, 2, 60);
        for (int k = 0; k < 60; k++) {
            x.write(2, k, 24 * k + 23);
        }
        ok(x.heads(1440, 2, 60), 1);
        heads(1, 0, 23);
        ok(x.heads(1463, 2, 60), 1);
        no(6, x.heads(1464, 2, 60));
        no(6, x.heads(9999, 2, 60));
        no(6, x.heads(1440, 2, 59));
        ok(x.heads(9999, 2, 0), 0);
        heads(1);
    }

    private static void promise33and34() {
        fresh(33);
        no(1, x.brief(4, 1, 1, 0, 0));
        no(1, x.brief(0, 0, 1, 0, 0));
        no(1, x.brief(0, 61, 1, 0, 0));
        no(1, x.brief(0, 1, 0, 0, 0));
        no(1, x.brief(0, 1, 100, 0, 0));
        no(1, x.brief(0, 1, 1, 1, 0));
        no(2, x.brief(0, 1, 1, 0, 0));
        row(0, 5, 1, 5, 7, 4, 6, 3);
        no(3, x.brief(0, 8, 10, 4, 6));
        ok(x.brief(0, 1, 10, 4, 6), 0);
        ok(x.brief(0, 2, 10, 4, 6), 10);
        ok(x.brief(0, 3, 10, 4, 6), 19);
        ok(x.brief(0, 7, 10, 4, 6), 48);
        ok(x.brief(0, 7, 1, 4, 6), 3);
        ok(x.brief(0, 7, 10, 8, 9), 61);
        ok(x.brief(0, 7, 99, 8, 9), 595);
        row(0, 1);
        ok(x.brief(0, 1, 99, 4, 6), 1);
        row(0, 1, 2, 5, 1, 1, 5);
        ok(x.brief(0, 6, 10, 4, 6), 49);
        row(0, -999, 9_999, 10_000, -1_000);
        ok(x.brief(0, 2, 5, -999, 9_999), 0);
        no(5, x.brief(0, 3, 5, -999, 9_999));
        row(0, -1_000);
        no(5, x.brief(0, 1, 5, -2_000, 9_999));
        promise = 34;
        no(1, x.glass(4, 1));
        no(1, x.glass(0, 0));
        no(1, x.glass(0, 21));
        no(2, x.glass(1, 1));
        ok(line("machine a speed 1;machine b speed 1 heads 3;"), 2);
        row(0, 1, 10, 0, 14, 0, 12, 1, 1, 1, 10);
        no(3, x.glass(0, 6));
        ok(x.glass(0, 1), 7);
        ok(x.glass(0, 2), 9);
        ok(x.glass(0, 3), 9);
        ok(x.glass(0, 4), 14);
        ok(x.glass(0, 5), 14);
        row(0, 1, 9_999);
        ok(x.glass(0, 1), 7);
        row(0, 1, 100, 9, -9);
        ok(x.glass(0, 1), 7);
        no(5, x.glass(0, 2));
        x.tray(0, 3, 40);
        for (int k = 0; k < 20; k++) {
            x.write(0, 2 * k, 1);
            x.write(0, 2 * k + 1, 100 * k);
        }
        ok(x.glass(0, 20), 137);
        row(0, 1, 10_000);
        no(5, x.glass(0, 1));
        row(0, 1, -1);
        no(5, x.glass(0, 1));
        row(0, 2, 5);
        no(5, x.glass(0, 1));
        row(0, -1, 5);
        no(5, x.glass(0, 1));
        row(0, 1L << 32, 5);
        no(5, x.glass(0, 1));
        row(0, 0, 0);
        ok(x.glass(0, 1), 2);
    }

    private static void ordered(int... sorts) {
        for (int k = 0; k < sorts.length; k++) {
            ok(x.ordered(k), sorts[k]);
        }
        no(6, x.ordered(sorts.length));
        no(1, x.ordered(-1));
    }

    private static void promise35and36() {
        fresh(35);
        no(1, x.order(0, 0));
        no(1, x.order(1, 0));
        promise = 36;
        no(6, x.ordered(0));
        no(1, x.ordered(-1));
        promise = 35;
        ok(line(THREE), 3);
        ok(x.order(7, 0), 7);
        ordered(0, 1, 2);
        ok(x.order(7, 1), 12);
        ordered(1, 2, 0);
        ok(x.order(7, 2), 15);
        ordered(2, 0, 1);
        ok(x.order(6, 2), 20);
        ordered(2, 1);
        ok(x.order(4, 2), 0);
        ordered(2);
        no(1, x.order(8, 2));
        no(1, x.order(15, 0));
        no(1, x.order(9, 0));
        no(1, x.order(8, 3));
        no(1, x.order(-1, 0));
        no(1, x.order(6, 0));
        no(1, x.order(7, 3));
        no(1, x.order(7, -1));
        no(1, x.order(7, 32));
        ordered(2);
        ok(line(""), 0);
        ordered(2);
        ok(line("sort a;sort b;sort c;sort d;sort e;sort f;sort g;"), 0);
        ok(x.order(127, 3), 60);
        ordered(3, 0, 1, 2, 4, 5, 6);
        ok(line("sort a;sort b;sort c;sort d;sort e;sort f;sort g;wash g f 0;wash f e 1;wash e d 2;wash b a 3;"
            + "wash d b 4;wash a c 5;wash g a 0;"), 0);
        ok(x.order(127, 6), 15);
        ordered(6, 5, 4, 3, 1, 0, 2);
    }

    private static void promise37and38() {
        fresh(37);
        no(1, x.closes(4));
        no(1, x.closes(-1));
        no(2, x.closes(0));
        x.tray(0, 3, 0);
        ok(x.closes(0), -1);
        ok(line(THREE), 3);
        no(3, x.closes(0));
        row(0, 10, 5, 3, 2, 7, 0, 7, 0);
        ok(x.closes(0), -1);
        row(0, 10, 5, 3, 2, 7, 0, 7);
        no(3, x.closes(0));
        row(0, 10, 5, 3, 2, 7, 1, 7, 0);
        ok(x.closes(0), 1);
        row(0, 9, 5, 3, 2, 7, 1, 7, 0);
        ok(x.closes(0), 0);
        row(0, 9, 5, 3, 2, 7, 1, 7, -1);
        no(5, x.closes(0));
        row(0, 1_000_000, 1_000_000, 0, 0, 0, 0, 0, 0, -5);
        ok(x.closes(0), -1);
        row(0, 1_000_001, 1_000_001, 0, 0, 0, 0, 0, 0);
        no(5, x.closes(0));
        promise = 38;
        ok(x.recall(10, 12, 25, 5, 47, 0), 2);
        ok(x.recall(10, 12, 25, 5, 47, 1), 1);
        ok(x.recall(10, 12, 25, 5, 47, 2), 3);
        ok(x.recall(10, 12, 25, 5, 47, 3), 0);
        ok(x.recall(10, 12, 25, 12, 47, 3), 3);
        ok(x.recall(10, 12, 25, 10, 29, 2), 0);
        no(6, x.recall(10, 12, 25, 10, 29, 3));
        ok(x.recall(10, 12, 25, 10, 29, 1), 1);
        ok(x.recall(10, 12, 25, 10, 30, 3), 3);
        ok(x.recall(1, 0, 9_999, 0, 9_999, 0), 10_000);
        ok(x.recall(99, 9_999, 9_999, 0, 9_999, 2), 101);
        no(1, x.recall(0, 12, 25, 5, 47, 0));
        no(1, x.recall(100, 12, 25, 5, 47, 0));
        no(1, x.recall(10, 12, 25, 13, 47, 0));
        no(1, x.recall(10, 12, 25, 5, 24, 0));
        no(1, x.recall(10, 26, 25, 5, 47, 0));
        no(1, x.recall(10, 12, 25, -1, 47, 0));
        no(1, x.recall(10, 12, 25, 5, 10_000, 0));
        no(1, x.recall(10, 12, 25, 5, 47, 4));
        no(1, x.recall(10, 12, 25, 5, 47, -1));
    }

    private static void placed(int... shifts) {
        for (int k = 0; k < shifts.length; k++) {
            ok(x.shiftOf(k), shifts[k]);
        }
        no(6, x.shiftOf(shifts.length));
        no(1, x.shiftOf(-1));
    }

    private static void promise39and40() {
        fresh(40);
        no(6, x.shiftOf(0));
        no(1, x.shiftOf(-1));
        promise = 39;
        no(1, x.shifts(4, 1, 1));
        no(1, x.shifts(0, 0, 1));
        no(1, x.shifts(0, 9, 1));
        no(1, x.shifts(0, 1, 0));
        no(1, x.shifts(0, 1, 1_000));
        no(2, x.shifts(0, 1, 1));
        row(0, 5, 5, 5);
        no(3, x.shifts(0, 4, 10));
        ok(x.shifts(0, 3, 10), 2);
        placed(0, 0, 1);
        ok(x.shifts(0, 3, 15), 1);
        placed(0, 0, 0);
        ok(x.shifts(0, 3, 9), 3);
        placed(0, 1, 2);
        no(5, x.shifts(0, 3, 4));
        placed(0, 1, 2);
        row(0, 6, 5, 4, 5);
        ok(x.shifts(0, 4, 10), 2);
        placed(0, 1, 0, 1);
        // Laid greedily into the first shift with room these would need four.
        row(0, 4, 4, 6, 6, 2, 8);
        ok(x.shifts(0, 6, 10), 3);
        placed(0, 1, 0, 1, 2, 2);
        row(0, 999, 1, 999, 1, 997, 1, 1, 0);
        ok(x.shifts(0, 7, 999), 4);
        placed(0, 1, 2, 1, 1, 3, 3);
        no(5, x.shifts(0, 8, 999));
        row(0, 1_000);
        no(5, x.shifts(0, 1, 999));
        row(0, 9, 9, 9, 9, 9, 9, 9, 9);
        ok(x.shifts(0, 8, 9), 8);
        placed(0, 1, 2, 3, 4, 5, 6, 7);
    }

    private static void promise41and42() {
        fresh(41);
        no(1, x.lot(4, 1, 0));
        no(1, x.lot(0, 0, 0));
        no(1, x.lot(0, 31, 0));
        no(1, x.lot(0, 1, -1));
        no(1, x.lot(0, 1, 10_000));
        no(2, x.lot(0, 1, 0));
        row(0, 10, 20, 21, 9_999, 9_999, 30);
        no(3, x.lot(0, 7, 5));
        ok(x.lot(0, 4, 10), 0);
        ok(x.lot(0, 4, 19), 0);
        ok(x.lot(0, 4, 20), 1);
        ok(x.lot(0, 4, 21), 2);
        ok(x.lot(0, 4, 9_998), 2);
        ok(x.lot(0, 4, 9_999), 3);
        ok(x.lot(0, 1, 9_999), 0);
        no(6, x.lot(0, 4, 9));
        no(5, x.lot(0, 5, 9));
        row(0, 10, 5);
        no(5, x.lot(0, 2, 9));
        row(0, -1, 5);
        no(5, x.lot(0, 2, 9));
        row(0, 1, 10_000);
        no(5, x.lot(0, 2, 9));
        row(0, 0);
        ok(x.lot(0, 1, 0), 0);
        x.tray(0, 2, 30);
        for (int k = 0; k < 30; k++) {
            x.write(0, k, 10 * k);
        }
        ok(x.lot(0, 30, 289), 28);
        ok(x.lot(0, 30, 290), 29);
        promise = 42;
        no(1, x.torn(4, 1, 0));
        no(1, x.torn(0, 0, 0));
        no(1, x.torn(0, 61, 0));
        no(1, x.torn(0, 1, -1));
        no(1, x.torn(0, 1, 10_000));
        no(2, x.torn(1, 1, 0));
        row(0, 10, -1, 20, -1, 99, 0);
        no(3, x.torn(0, 7, 40));
        no(6, x.torn(0, 1, 40));
        ok(x.torn(0, 4, 45));
        fraction(15, 2);
        ok(x.torn(0, 6, 135));
        fraction(3, 1);
        no(6, x.torn(0, 4, 29));
        fraction(3, 1);
        ok(x.torn(0, 4, 30));
        fraction(0, 1);
        ok(x.torn(0, 4, 228));
        fraction(99, 1);
        no(6, x.torn(0, 4, 229));
        row(0, -1, 100);
        no(5, x.torn(0, 2, 150));
        row(0, -1, -2);
        no(5, x.torn(0, 2, 50));
        x.tray(0, 0, 60);
        for (int k = 0; k < 60; k++) {
            x.write(0, k, 255);
        }
        ok(x.torn(0, 60, 5_940));
        fraction(99, 1);
        ok(x.torn(0, 60, 50));
        fraction(5, 6);
        no(6, x.torn(0, 60, 9_999));
        no(1, x.torn(0, 60, 10_000));
    }

    private static void promise43and44() {
        fresh(43);
        no(6, x.back());
        ok(x.mark(), 1);
        ok(line(TWO), 2);
        ok(shift("run 2;"), 1);
        ok(x.begin(7));
        ok(x.run(3), 4);
        ok(x.mark(), 2);
        ok(x.run(3), 6);
        ok(shift("run 9;speed b 9;halt a 4;"), 3);
        ok(x.work(), 3);
        ok(x.mark(), 3);
        no(4, x.mark());
        ok(line("machine z speed 1;sort s;"), 1);
        row(0, 1, -1);
        ok(x.torn(0, 2, 4));
        due(x.feed(0, 0, 0, 0, 0), 20);
        promise = 44;
        ok(x.back(), 2);
        ok(x.many(0), 2);
        ok(x.many(1), 0);
        ok(x.many(2), 15);
        ok(x.machine(1, 0), 9);
        ok(x.machine(0, 4), 4);
        ok(x.worked(0), 9);
        ok(x.back(), 1);
        ok(x.many(2), 3);
        ok(x.many(3), 4);
        ok(x.machine(1, 0), 2);
        ok(x.machine(0, 4), 0);
        ok(x.minutes(0, 2), 3);
        ok(x.blame(0, 1), 3);
        ok(x.table(0, 1), 3);
        ok(x.machine(1, 5), 0);
        ok(x.worked(0), 9);
        fraction(3, 1);
        ok(x.read(0, 1), -1);
        due(x.feed(0, 0, 0, 0, 0), 40);
        ok(x.work(), 1);
        ok(x.worked(0), 2);
        ok(x.mark(), 2);
        ok(x.back(), 1);
        ok(x.back(), 0);
        ok(x.many(0), 0);
        ok(x.work(), 0);
        no(6, x.back());
        // The draws and the seed are kept, too.
        ok(x.line(0), 0);
        ok(line("machine a speed 3 stops 30 lasts 2;table 8;machine b speed 3;"), 2);
        ok(x.begin(4321));
        ok(x.run(20) > 0 ? 1 : 0, 1);
        ok(x.mark(), 1);
        int later = x.run(40);
        ok(x.begin(1));
        ok(x.run(33) > 0 ? 1 : 0, 1);
        ok(x.back(), 0);
        ok(x.run(40), later);
        ok(x.begin(4321));
        int all = x.run(50);
        ok(x.shared(1, 8, 50), all);
    }
}
