import java.util.ArrayList;
import java.util.EnumSet;
import java.util.List;
import java.util.Set;

/** What an object shows of its state by its face alone. Looking may change it, so each looks at an object of its own. */
enum Witness {
    TRAY_0, TRAY_1, TRAY_2, TRAY_3, FRACTION, FAULT, TAPE, LINE, COUNTS, DRAWS, SEED, SHIFT, SHIFT_ELSEWHERE, NEXT_SHIFT,
    MARKS, GAINED, UNITS, WORKED, HEADS, ORDERED, REPAIRS;

    /** Has machines of the names that the tests' shifts speak of. */
    private static final String ELSEWHERE =
        "machine a speed 7 stops 9 lasts 3;table 30;machine b speed 5;table 9;machine c speed 6;machine abcdefgh speed 9;";

    private static final String ANOTHER_SHIFT = "run 1;loop 2;run 1;loop 2;when a works;run 1;end;end;end;speed a 3;";

    static Set<Witness> all() {
        return EnumSet.allOf(Witness.class);
    }

    static Set<Witness> allBut(Witness... some) {
        Set<Witness> left = all();
        left.removeAll(List.of(some));
        return left;
    }

    List<Long> looksAt(Used x) {
        List<Long> seen = new ArrayList<>();
        switch (this) {
            case TRAY_0, TRAY_1, TRAY_2, TRAY_3 -> tray(x, seen, ordinal());
            case FRACTION -> {
                look(x, seen, "top");
                look(x, seen, "bottom");
            }
            case FAULT -> each(x, seen, "fault", 1);
            case TAPE -> tape(x, seen);
            case LINE -> line(x, seen);
            case COUNTS -> counts(x, seen);
            case DRAWS -> {
                look(x, seen, "run", 50);
                counts(x, seen);
            }
            case SEED -> {
                look(x, seen, "shared", 1, 20, 100);
                look(x, seen, "shared", 3, 4, 60);
            }
            case SHIFT -> shift(x, seen);
            case SHIFT_ELSEWHERE -> {
                text(x, seen, "line", ELSEWHERE);
                line(x, seen);
                shift(x, seen);
            }
            case NEXT_SHIFT -> {
                text(x, seen, "shift", ANOTHER_SHIFT);
                shift(x, seen);
            }
            case MARKS -> marks(x, seen);
            case GAINED -> look(x, seen, "gained");
            case UNITS -> each(x, seen, "unit", 5);
            case WORKED -> each(x, seen, "worked", 2);
            case HEADS -> each(x, seen, "head", 4);
            case ORDERED -> each(x, seen, "ordered", 7);
            default -> each(x, seen, "shiftOf", 8);
        }
        return seen;
    }

    private static boolean look(Used x, List<Long> seen, String what, long... a) {
        seen.add(x.call(what, a));
        if (!Used.hasStatus(what)) {
            return true;
        }
        long status = x.call("status");
        seen.add(status);
        return status == 0;
    }

    private static void each(Used x, List<Long> seen, String what, int last) {
        for (int k = 0; k <= last; k++) {
            look(x, seen, what, k);
        }
    }

    /** Its numbers, and its sort: numbers can be poured to a tray of the same sort alone. */
    private static void tray(Used x, List<Long> seen, int tray) {
        int place = 0;
        while (place < 61 && look(x, seen, "read", tray, place)) {
            place++;
        }
        int other = (tray + 1) % 4;
        for (int sort = 0; sort < 4; sort++) {
            x.call("tray", other, sort, 0);
            look(x, seen, "pour", tray, 0, other, 0, 0);
        }
    }

    private static void tape(Used x, List<Long> seen) {
        long filled = x.call("feed", 0, 0, 0, 0, 0);
        seen.add(filled);
        look(x, seen, "line", filled == BottleLine.NONE ? 700 : filled - 20);
        each(x, seen, "fault", 1);
        look(x, seen, "many", 0);
        look(x, seen, "many", 1);
        look(x, seen, "machine", 0, 0);
    }

    private static void text(Used x, List<Long> seen, String what, String text) {
        x.call(what, 0);
        for (long[] feed : Real.feeds(text)) {
            x.call("feed", feed);
        }
        look(x, seen, what, text.length());
        each(x, seen, "fault", 1);
    }

    private static void line(Used x, List<Long> seen) {
        each(x, seen, "many", 3);
        long machines = x.call("many", 0);
        long sorts = x.call("many", 1);
        for (int m = 0; m < machines; m++) {
            for (int what = 0; what < 7; what++) {
                look(x, seen, "machine", m, what);
            }
            look(x, seen, "table", m, 0);
            look(x, seen, "table", m, 1);
        }
        for (int from = 0; from < sorts; from++) {
            for (int to = 0; to < sorts; to++) {
                look(x, seen, "wash", from, to);
            }
        }
    }

    private static void counts(Used x, List<Long> seen) {
        long machines = x.call("many", 0);
        each(x, seen, "many", 3);
        for (int m = 0; m < machines; m++) {
            for (int how = 0; how < 4; how++) {
                look(x, seen, "minutes", m, how);
            }
            for (int other = 0; other < machines; other++) {
                look(x, seen, "blame", m, other);
            }
        }
    }

    private static void shift(Used x, List<Long> seen) {
        look(x, seen, "work");
        each(x, seen, "worked", 2);
        each(x, seen, "many", 3);
        long machines = x.call("many", 0);
        for (int m = 0; m < machines; m++) {
            look(x, seen, "machine", m, 0);
            look(x, seen, "machine", m, 4);
            look(x, seen, "machine", m, 6);
        }
    }

    private static void marks(Used x, List<Long> seen) {
        for (int k = 0; k < 4; k++) {
            look(x, seen, "back");
            shift(x, seen);
        }
        look(x, seen, "mark");
    }
}
