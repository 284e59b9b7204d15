import java.util.ArrayList;
import java.util.Arrays;
import java.util.List;
import java.util.Set;

/**
 * What the tests of boundary cases share: a run of calls that is kept, so that twins of it can be made anew, one with a
 * refused call and one without, and held against each other.
 */
abstract class Bounds {
    /** Three machines (the first one stops now and then), three sorts, two washes. */
    static final String LINE = "machine a speed 10 heads 3 stops 9 lasts 2;table 15;machine b speed 6 heads 4;table 6;"
        + "machine c speed 8;sort ale;sort wine;sort cider;wash ale wine 5;wash wine cider 2;";
    static final String SHIFT = "speed b 3;run 3;when b works;halt a 2;end;run 2;";
    static final String ON_TAPE = "sort tape;";

    private record Call(String what, long[] a) {
        @Override
        public String toString() {
            return what + Arrays.toString(a).replace('[', '(').replace(']', ')');
        }
    }

    private static List<Call> calls = new ArrayList<>();
    private static Used x = new Used();
    private static String name = "";
    private static String only = "";
    private static int tests = 0;
    private static int wrong = 0;

    static void onlyOf(String part) {
        only = part;
    }

    static int tests() {
        return tests;
    }

    static int wrong() {
        return wrong;
    }

    /** A test of its own for a sentence of the document, on a new object. */
    static void sentence(String section, String words, Runnable test) {
        Sentences.quoted(section, words);
        name = section + " \"" + words + "\"";
        if (!name.contains(only)) {
            return;
        }
        tests++;
        fresh();
        try {
            test.run();
        } catch (RuntimeException e) {
            report("threw " + e);
            e.printStackTrace(System.out);
        }
    }

    static void complain(List<String> amiss) {
        wrong += amiss.size();
        amiss.forEach(System.out::println);
    }

    static void report(String what) {
        wrong++;
        System.out.println(name + ": " + what);
    }

    // ---- states to start from

    static void fresh() {
        calls = new ArrayList<>();
        x = new Used();
    }

    /** All that an object can hold is there, but nothing is on the tape, and TRAY 3 is MISSING. */
    static void rich() {
        fresh();
        line(3, LINE);
        shift(5, SHIFT);
        taken(1, "begin", 1234);
        status0("run", 5);
        taken(1, "mark");
        status0("run", 3);
        taken(5, "work");
        status0("holder", 2, 20);
        status0("shared", 2, 8, 20);
        row(0, 3, 1, 5, 9);
        taken(1, "heads", 12, 0, 3);
        taken(7, "order", 7, 0);
        row(1, 2, 4, 4, 6);
        taken(2, "shifts", 1, 3, 10);
        row(2, 0, 20, -1, -1);
        taken(1, "torn", 2, 3, 23);
    }

    /** Rich, with bytes on the tape. */
    static void full() {
        rich();
        lay(ON_TAPE);
    }

    // ---- calls

    private static long make(String what, long... a) {
        calls.add(new Call(what, a));
        return x.call(what, a);
    }

    private static void due(String what, long got, long want) {
        if (got != want) {
            report(what + " answered " + got + ", due is " + want);
        }
    }

    static void taken(long want, String what, long... a) {
        long got = make(what, a);
        due(new Call(what, a).toString(), got, want);
        if (Used.hasStatus(what)) {
            due("status() behind " + new Call(what, a), x.call("status"), 0);
        }
    }

    /** The answer of a call that must be taken, where the answer itself is not what is looked at. */
    static long status0(String what, long... a) {
        long got = make(what, a);
        due("status() behind " + new Call(what, a), x.call("status"), 0);
        return got;
    }

    /** A call that must be refused, where what it leaves is looked at by the test itself. */
    static void givesNone(String what, long... a) {
        due(new Call(what, a).toString(), make(what, a), Used.refusal(what));
    }

    static void status(int want) {
        due("status()", x.call("status"), want);
    }

    /** A call that gives NONE, or false, with this STATUS, and changes nothing else. */
    static void refused(int status, String what, long... a) {
        List<Call> ahead = new ArrayList<>(calls);
        long got = make(what, a);
        Call call = new Call(what, a);
        due(call.toString(), got, Used.refusal(what));
        due("status() behind " + call, x.call("status"), status);
        same(Witness.all(), ahead, call.toString());
    }

    /** Of the argument at a place: the first that are refused on both sides, the farthest, and the last that are taken. */
    static void limits(long least, long most, int place, String what, long... a) {
        for (long v : new long[] {least - 1, most + 1, Integer.MIN_VALUE, Integer.MAX_VALUE}) {
            refused(1, what, with(v, place, a));
        }
        for (long v : new long[] {least, most}) {
            Used twin = made(calls);
            twin.call(what, with(v, place, a));
            due("status() behind " + new Call(what, with(v, place, a)), twin.call("status"), 0);
        }
    }

    private static long[] with(long v, int place, long[] a) {
        long[] b = a.clone();
        b[place] = v;
        return b;
    }

    /** A call that is taken and changes nothing, but what these witnesses look at. */
    static void keeps(Set<Witness> looking, long want, String what, long... a) {
        List<Call> ahead = new ArrayList<>(calls);
        taken(want, what, a);
        same(looking, ahead, new Call(what, a).toString());
    }

    static void refusedFeed() {
        List<Call> ahead = new ArrayList<>(calls);
        long before = x.call("status");
        due("feed on a full tape", make("feed", 1, 2, 3, 4, 5), BottleLine.NONE);
        due("status() behind it", x.call("status"), before);
        same(Witness.all(), ahead, "feed on a full tape");
    }

    private static Used made(List<Call> run) {
        Used twin = new Used();
        for (Call call : run) {
            twin.call(call.what, call.a);
        }
        return twin;
    }

    private static void same(Set<Witness> looking, List<Call> ahead, String call) {
        for (Witness witness : looking) {
            List<Long> before = witness.looksAt(made(ahead));
            List<Long> after = witness.looksAt(made(calls));
            if (!before.equals(after)) {
                report(call + " changed what " + witness + " shows: " + before + " is now " + after);
            }
        }
    }

    // ---- trays and texts

    static void row(int tray, int sort, long... row) {
        taken(1, "tray", tray, sort, row.length);
        for (int k = 0; k < row.length; k++) {
            taken(1, "write", tray, k, row[k]);
        }
    }

    static void holds(int tray, long... row) {
        for (int k = 0; k < row.length; k++) {
            taken(row[k], "read", tray, k);
        }
        refused(3, "read", tray, row.length);
    }

    static void lay(String text) {
        for (long[] feed : Real.feeds(text)) {
            make("feed", feed);
        }
    }

    static void line(int machines, String text) {
        text("line", machines, text);
    }

    static void shift(int steps, String text) {
        text("shift", steps, text);
    }

    private static void text(String what, int want, String text) {
        lay(text);
        taken(want, what, text.length());
        taken(0, "fault", 0);
        taken(-1, "fault", 1);
    }

    /** A LINE with a FAULT at the place where the sign ^ stands (the sign is no part of it). */
    static void lineFault(int kind, String text) {
        faulty("line", kind, text.replace("^", ""), text.indexOf('^'));
    }

    static void shiftFault(int kind, String text) {
        faulty("shift", kind, text.replace("^", ""), text.indexOf('^'));
    }

    /** The tape must be empty ahead of it: then a twin that was never fed shows all that must not change. */
    private static void faulty(String what, int kind, String text, int place) {
        List<Call> ahead = new ArrayList<>(calls);
        lay(text);
        long got = make(what, text.length());
        String call = what + " of '" + text + "'";
        due(call, got, BottleLine.NONE);
        due("status() behind " + call, x.call("status"), 9);
        due("fault(0) of " + call, x.call("fault", 0), kind);
        due("fault(1) of " + call, x.call("fault", 1), place);
        due("fault(2) of " + call, x.call("fault", 2), BottleLine.NONE);
        same(Witness.allBut(Witness.FAULT), ahead, call);
        calls = ahead;
        x = made(ahead);
    }

    static void fraction(long top, long bottom) {
        taken(top, "top");
        taken(bottom, "bottom");
    }
}
