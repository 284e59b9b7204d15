import java.util.ArrayDeque;
import java.util.ArrayList;
import java.util.Arrays;
import java.util.BitSet;
import java.util.Deque;
import java.util.HashMap;
import java.util.List;
import java.util.Map;
import java.util.Set;
import java.util.TreeMap;
import java.util.TreeSet;

/** The document once more, written for plainness alone, with the whole library at hand: what BottleLine must answer. */
final class Model {
    static final Set<String> LINE_WORDS =
        Set.of("machine", "speed", "heads", "stops", "lasts", "table", "sort", "wash");
    static final Set<String> SHIFT_WORDS = Set.of(
        "run", "speed", "halt", "mend", "loop", "when", "end", "works", "starved", "blocked", "stopped");
    static final List<String> STATES = List.of("works", "starved", "blocked", "stopped");

    static final class Machine implements Cloneable {
        String name;
        int speed;
        int heads = 1;
        int stops;
        int lasts;
        int room = 20;
        int stand;
        int lying;
        int bottles;
        String how;
        Map<String, Integer> spent = new HashMap<>();
        Map<Integer, Integer> blames = new HashMap<>();

        Machine copied() {
            try {
                Machine m = (Machine) clone();
                m.spent = new HashMap<>(spent);
                m.blames = new HashMap<>(blames);
                return m;
            } catch (CloneNotSupportedException e) {
                throw new IllegalStateException(e);
            }
        }

        void renew() {
            stand = 0;
            lying = 0;
            bottles = 0;
            how = null;
            spent.clear();
            blames.clear();
        }
    }

    static final class Works {
        List<Machine> machines = new ArrayList<>();
        List<String> sorts = new ArrayList<>();
        Map<String, Integer> washes = new HashMap<>();
        int seed;
        long s;
        int minutes;

        Works copied() {
            Works w = new Works();
            for (Machine m : machines) {
                w.machines.add(m.copied());
            }
            w.sorts.addAll(sorts);
            w.washes.putAll(washes);
            w.seed = seed;
            w.s = s;
            w.minutes = minutes;
            return w;
        }

        void begin(int newSeed) {
            seed = newSeed;
            s = newSeed;
            minutes = 0;
            machines.forEach(Machine::renew);
        }

        int made() {
            return machines.isEmpty() ? 0 : machines.get(machines.size() - 1).bottles;
        }

        int wash(int from, int to) {
            return washes.getOrDefault(sorts.get(from) + ">" + sorts.get(to), 10);
        }

        Machine named(String name) {
            return machines.stream().filter(m -> m.name.equals(name)).findFirst().orElse(null);
        }

        int run(int many) {
            int before = made();
            for (int k = 0; k < many; k++) {
                minute();
            }
            return made() - before;
        }

        void minute() {
            minutes++;
            for (Machine m : machines) {
                m.how = null;
                if (m.stand > 0) {
                    m.stand--;
                    m.how = "stopped";
                } else if (m.stops > 0) {
                    s = (s * 3373 + 12289) % 65536;
                    if ((s / 8) % 64 < m.stops) {
                        m.how = "stopped";
                        m.stand = m.lasts - 1;
                    }
                }
            }
            int last = machines.size() - 1;
            for (int k = last; k >= 0; k--) {
                Machine m = machines.get(k);
                if (m.how != null) {
                    continue;
                }
                long there = k == 0 ? Long.MAX_VALUE : machines.get(k - 1).lying;
                long room = k == last ? Long.MAX_VALUE : m.room - m.lying;
                long taken = Math.min(m.speed, Math.min(there, room));
                if (k > 0) {
                    machines.get(k - 1).lying -= (int) taken;
                }
                if (k < last) {
                    m.lying += (int) taken;
                }
                m.bottles += (int) taken;
                m.how = taken == m.speed ? "works" : there < m.speed && there <= room ? "starved" : "blocked";
            }
            for (int k = 0; k <= last; k++) {
                Machine m = machines.get(k);
                m.spent.merge(m.how, 1, Integer::sum);
                int step = m.how.equals("starved") ? -1 : m.how.equals("blocked") ? 1 : 0;
                int other = k;
                while (step != 0 && machines.get(other).how.equals(m.how)) {
                    other += step;
                }
                if (step != 0) {
                    m.blames.merge(other, 1, Integer::sum);
                }
            }
        }
    }

    static final class Fault extends RuntimeException {
        private static final long serialVersionUID = 1;
        final int kind;
        final int place;

        Fault(int kind, int place) {
            this.kind = kind;
            this.place = place;
        }
    }

    static final class Token {
        final String text;
        final int place;

        Token(String text, int place) {
            this.text = text;
            this.place = place;
        }

        boolean word() {
            return text.matches("[a-z]+");
        }

        boolean number() {
            return text.matches("[0-9]{1,4}");
        }
    }

    /** Tokens of a text; one that is none has a text that starts with '?'. */
    static Deque<Token> tokens(String text) {
        Deque<Token> list = new ArrayDeque<>();
        java.util.regex.Matcher m =
            java.util.regex.Pattern.compile("[a-z]+|[0-9]+|;|[^a-z0-9; \n]", java.util.regex.Pattern.DOTALL).matcher(text);
        while (m.find()) {
            boolean good = m.group().matches("[a-z]+|[0-9]{1,4}|;");
            list.add(new Token(good ? m.group() : "?", m.start()));
        }
        list.add(new Token("", text.length()));
        return list;
    }

    static Fault cant(Token t) {
        return new Fault(t.text.equals("?") ? 1 : 2, t.place);
    }

    static void need(Deque<Token> list, String text) {
        Token t = list.peek();
        if (!t.text.equals(text)) {
            throw cant(t);
        }
        list.poll();
    }

    static int number(Deque<Token> list, int least, int most) {
        Token t = list.peek();
        if (!t.number()) {
            throw cant(t);
        }
        int v = Integer.parseInt(t.text);
        if (v < least || v > most) {
            throw new Fault(4, t.place);
        }
        list.poll();
        return v;
    }

    static Token name(Deque<Token> list, Set<String> kept) {
        Token t = list.peek();
        if (!t.word() || t.text.length() > 8 || kept.contains(t.text)) {
            throw cant(t);
        }
        return list.poll();
    }

    static Works parseLine(String text) {
        Deque<Token> list = tokens(text);
        Works w = new Works();
        Set<String> told = new TreeSet<>();
        while (!list.peek().text.isEmpty()) {
            Token t = list.poll();
            switch (t.text) {
                case "machine" -> parseMachine(w, t, list);
                case "table" -> {
                    if (w.machines.isEmpty() || !told.add("table " + w.machines.size())) {
                        throw new Fault(5, t.place);
                    }
                    w.machines.get(w.machines.size() - 1).room = number(list, 0, 999);
                }
                case "sort" -> {
                    if (w.sorts.size() == 7) {
                        throw new Fault(6, t.place);
                    }
                    Token n = name(list, LINE_WORDS);
                    if (w.sorts.contains(n.text)) {
                        throw new Fault(3, n.place);
                    }
                    w.sorts.add(n.text);
                }
                case "wash" -> {
                    Token a = name(list, LINE_WORDS);
                    if (!w.sorts.contains(a.text)) {
                        throw new Fault(3, a.place);
                    }
                    Token b = name(list, LINE_WORDS);
                    if (!w.sorts.contains(b.text)) {
                        throw new Fault(3, b.place);
                    }
                    String key = a.text + ">" + b.text;
                    if (a.text.equals(b.text) || w.washes.containsKey(key)) {
                        throw new Fault(5, b.place);
                    }
                    w.washes.put(key, number(list, 0, 999));
                }
                default -> throw cant(t);
            }
            need(list, ";");
        }
        w.begin(0);
        return w;
    }

    static void parseMachine(Works w, Token at, Deque<Token> list) {
        if (w.machines.size() == 6) {
            throw new Fault(6, at.place);
        }
        Token n = name(list, LINE_WORDS);
        if (w.named(n.text) != null) {
            throw new Fault(3, n.place);
        }
        Machine m = new Machine();
        m.name = n.text;
        need(list, "speed");
        m.speed = number(list, 1, 99);
        Set<String> told = new TreeSet<>();
        while (list.peek().text.equals("heads") || list.peek().text.equals("stops")) {
            Token o = list.poll();
            if (!told.add(o.text)) {
                throw new Fault(5, o.place);
            }
            if (o.text.equals("heads")) {
                m.heads = number(list, 1, 24);
            } else {
                m.stops = number(list, 0, 64);
                need(list, "lasts");
                m.lasts = number(list, 1, 99);
            }
        }
        w.machines.add(m);
    }

    static final class Step {
        String word;
        String name;
        String state;
        int number;
        List<Step> body = new ArrayList<>();
    }

    private int stepsRead;

    List<Step> parseShift(String text) {
        Deque<Token> list = tokens(text);
        stepsRead = 0;
        List<Step> all = steps(list, 0);
        if (!list.peek().text.isEmpty()) {
            throw cant(list.peek());
        }
        return all;
    }

    private List<Step> steps(Deque<Token> list, int depth) {
        List<Step> all = new ArrayList<>();
        while (List.of("run", "speed", "halt", "mend", "loop", "when").contains(list.peek().text)) {
            Token t = list.poll();
            boolean block = t.text.equals("loop") || t.text.equals("when");
            if (block && depth == 3) {
                throw new Fault(5, t.place);
            }
            if (++stepsRead > 30) {
                throw new Fault(6, t.place);
            }
            Step step = new Step();
            step.word = t.text;
            if (!t.text.equals("run") && !t.text.equals("loop")) {
                step.name = name(list, SHIFT_WORDS).text;
            }
            if (t.text.equals("when")) {
                if (!STATES.contains(list.peek().text)) {
                    throw cant(list.peek());
                }
                step.state = list.poll().text;
            }
            switch (t.text) {
                case "run" -> step.number = number(list, 1, 60);
                case "speed" -> step.number = number(list, 1, 99);
                case "halt" -> step.number = number(list, 0, 99);
                case "loop" -> step.number = number(list, 1, 9);
                default -> { }
            }
            need(list, ";");
            if (block) {
                step.body = steps(list, depth + 1);
                need(list, "end");
                need(list, ";");
            }
            all.add(step);
        }
        return all;
    }

    // ---- the object

    long[][] trays = new long[4][];
    int[] traySorts = new int[4];
    String tape = "";
    Works now = new Works();
    List<Step> script = new ArrayList<>();
    Deque<Works> markedWorks = new ArrayDeque<>();
    Deque<List<Step>> markedScripts = new ArrayDeque<>();
    int status;
    long top = 0;
    long bottom = 1;
    int faultKind = -1;
    int faultPlace = -1;
    Integer gained;
    List<Integer> units;
    int[] worked;
    List<List<Integer>> headSets;
    List<Integer> ordered = List.of();
    List<Integer> shiftsOf = List.of();

    static final class No extends RuntimeException {
        private static final long serialVersionUID = 1;
        final int status;

        No(int status) {
            this.status = status;
        }
    }

    static void must(boolean holds, int status) {
        if (!holds) {
            throw new No(status);
        }
    }

    static boolean in(long v, long least, long most) {
        return v >= least && v <= most;
    }

    /** A call by name: its answer, a boolean as 1 or 0. */
    long call(String what, long... a) {
        int[] i = Arrays.stream(a).mapToInt(v -> (int) v).toArray();
        switch (what) {
            case "status":
                return status;
            case "top":
                return top;
            case "bottom":
                return bottom;
            case "feed":
                return feed(i);
            case "fault":
                return i[0] == 0 ? faultKind : i[0] == 1 ? faultPlace : -1;
            default:
        }
        try {
            long answer = answer(what, i, a);
            status = 0;
            return answer;
        } catch (No no) {
            status = no.status;
            return List.of("tray", "write", "pour", "begin", "share", "torn").contains(what) ? 0 : -1;
        }
    }

    private long feed(int[] i) {
        if (tape.length() + 20 > 700) {
            return -1;
        }
        StringBuilder more = new StringBuilder(tape);
        for (int v : i) {
            for (byte b : java.nio.ByteBuffer.allocate(4).putInt(v).array()) {
                more.append((char) (b & 255));
            }
        }
        tape = more.toString();
        return tape.length();
    }

    private long answer(String what, int[] i, long[] a) {
        return switch (what) {
            case "tray" -> tray(i[0], i[1], i[2]);
            case "write" -> write(i[0], i[1], a[2]);
            case "read" -> read(i[0], i[1]);
            case "pour" -> pour(i[0], i[1], i[2], i[3], i[4]);
            case "line" -> line(i[0]);
            case "shift" -> shift(i[0]);
            case "many" -> many(i[0]);
            case "machine" -> machine(i[0], i[1]);
            case "table" -> table(i[0], i[1]);
            case "wash" -> wash(i[0], i[1]);
            case "begin" -> begin(i[0]);
            case "run" -> run(i[0]);
            case "minutes" -> minutes(i[0], i[1]);
            case "blame" -> blame(i[0], i[1]);
            case "share" -> share(i[0]);
            case "tried" -> tried(i[0], i[1], i[2]);
            case "holder" -> holder(i[0], i[1]);
            case "gained" -> gained();
            case "shared" -> shared(i[0], i[1], i[2]);
            case "unit" -> unit(i[0]);
            case "waits" -> waits(i[0], i[1], i[2]);
            case "unwaited" -> unwaited(i[0], i[1]);
            case "work" -> work();
            case "worked" -> worked(i[0]);
            case "heads" -> heads(i[0], i[1], i[2]);
            case "head" -> head(i[0]);
            case "brief" -> brief(i[0], i[1], i[2], i[3], i[4]);
            case "glass" -> glass(i[0], i[1]);
            case "order" -> order(i[0], i[1]);
            case "ordered" -> ordered(i[0]);
            case "closes" -> closes(i[0]);
            case "recall" -> recall(i[0], i[1], i[2], i[3], i[4], i[5]);
            case "shifts" -> shifts(i[0], i[1], i[2]);
            case "shiftOf" -> shiftOf(i[0]);
            case "lot" -> lot(i[0], i[1], i[2]);
            case "torn" -> torn(i[0], i[1], i[2]);
            case "mark" -> mark();
            case "back" -> back();
            default -> throw new IllegalArgumentException(what);
        };
    }

    private long tray(int tray, int sort, int many) {
        must(in(tray, 0, 3) && in(sort, 0, 3) && in(many, 0, 60), 1);
        trays[tray] = new long[many];
        traySorts[tray] = sort;
        return 1;
    }

    private void place(int tray, int place) {
        must(in(tray, 0, 3), 1);
        must(trays[tray] != null, 2);
        must(in(place, 0, trays[tray].length - 1), 3);
    }

    private long write(int tray, int place, long v) {
        place(tray, place);
        int away = 64 - (8 << traySorts[tray]);
        trays[tray][place] = v << away >> away;
        return 1;
    }

    private long read(int tray, int place) {
        place(tray, place);
        return trays[tray][place];
    }

    private long pour(int from, int place, int to, int at, int many) {
        must(in(from, 0, 3) && in(to, 0, 3) && place >= 0 && at >= 0 && many >= 0, 1);
        must(trays[from] != null && trays[to] != null, 2);
        must(traySorts[from] == traySorts[to], 8);
        must((long) place + many <= trays[from].length && (long) at + many <= trays[to].length, 3);
        long[] poured = Arrays.copyOfRange(trays[from], place, place + many);
        for (int k = 0; k < many; k++) {
            trays[to][at + k] = poured[k];
        }
        return 1;
    }

    private String text(int n, int most) {
        must(in(n, 0, Math.min(most, tape.length())), 1);
        String text = tape.substring(0, n);
        tape = "";
        faultKind = 0;
        faultPlace = -1;
        return text;
    }

    private No faulty(Fault f) {
        faultKind = f.kind;
        faultPlace = f.place;
        return new No(9);
    }

    private long line(int n) {
        String text = text(n, 700);
        try {
            now = parseLine(text);
        } catch (Fault f) {
            throw faulty(f);
        }
        return now.machines.size();
    }

    private long shift(int n) {
        String text = text(n, 300);
        try {
            script = parseShift(text);
        } catch (Fault f) {
            throw faulty(f);
        }
        return stepsRead;
    }

    private long many(int what) {
        must(in(what, 0, 3), 1);
        return List.of(now.machines.size(), now.sorts.size(), now.minutes, now.made()).get(what);
    }

    private Machine at(int machine) {
        must(in(machine, 0, now.machines.size() - 1), 1);
        return now.machines.get(machine);
    }

    private long machine(int machine, int what) {
        Machine m = at(machine);
        must(in(what, 0, 6), 1);
        must(what != 5 || m.how != null, 6);
        int how = m.how == null ? -1 : STATES.indexOf(m.how);
        return List.of(m.speed, m.heads, m.stops, m.lasts, m.stand, how, m.bottles).get(what);
    }

    private long table(int table, int what) {
        must(in(table, 0, now.machines.size() - 2) && in(what, 0, 1), 1);
        return what == 0 ? now.machines.get(table).room : now.machines.get(table).lying;
    }

    private boolean sort(int sort) {
        return in(sort, 0, now.sorts.size() - 1);
    }

    private long wash(int from, int to) {
        must(sort(from) && sort(to) && from != to, 1);
        return now.wash(from, to);
    }

    private long begin(int seed) {
        must(in(seed, 0, 9999), 1);
        now.begin(seed);
        return 1;
    }

    private long run(int minutes) {
        must(in(minutes, 1, 600), 1);
        must(!now.machines.isEmpty(), 6);
        return now.run(minutes);
    }

    private long minutes(int machine, int how) {
        at(machine);
        must(in(how, 0, 3), 1);
        return at(machine).spent.getOrDefault(STATES.get(how), 0);
    }

    private long blame(int machine, int other) {
        at(machine);
        at(other);
        return at(machine).blames.getOrDefault(other, 0);
    }

    private void fraction(long up, long down) {
        long g = java.math.BigInteger.valueOf(up).gcd(java.math.BigInteger.valueOf(down)).longValueExact();
        top = up / g;
        bottom = down / g;
    }

    private long share(int machine) {
        Machine m = at(machine);
        must(now.minutes > 0, 6);
        fraction(m.spent.getOrDefault("works", 0), now.minutes);
        return 1;
    }

    private int tryOut(int machine, int speed, int minutes) {
        Works w = now.copied();
        w.machines.get(machine).speed = speed;
        return w.run(minutes);
    }

    private long tried(int machine, int speed, int minutes) {
        at(machine);
        must(in(speed, 1, 99) && in(minutes, 1, 600), 1);
        return tryOut(machine, speed, minutes);
    }

    private long holder(int more, int minutes) {
        must(in(more, 1, 20) && in(minutes, 1, 600), 1);
        must(!now.machines.isEmpty(), 6);
        TreeMap<Integer, Integer> firsts = new TreeMap<>();
        for (int k = 0; k < now.machines.size(); k++) {
            firsts.putIfAbsent(tryOut(k, Math.min(99, now.machines.get(k).speed + more), minutes), k);
        }
        gained = firsts.lastKey() - now.copied().run(minutes);
        return firsts.lastEntry().getValue();
    }

    private long gained() {
        must(gained != null, 6);
        return gained;
    }

    private static void ways(List<Integer> way, int tables, int left, List<List<Integer>> all) {
        if (way.size() == tables) {
            if (left == 0) {
                all.add(new ArrayList<>(way));
            }
            return;
        }
        for (int k = 0; k <= left; k++) {
            way.add(k);
            ways(way, tables, left - k, all);
            way.remove(way.size() - 1);
        }
    }

    private long shared(int many, int bottles, int minutes) {
        must(in(many, 0, 8) && in(bottles, 1, 99) && in(minutes, 1, 200), 1);
        must(now.machines.size() >= 2, 6);
        List<List<Integer>> all = new ArrayList<>();
        ways(new ArrayList<>(), now.machines.size() - 1, many, all);
        int most = -1;
        for (List<Integer> way : all) {
            Works w = now.copied();
            w.begin(now.seed);
            for (int k = 0; k < way.size(); k++) {
                w.machines.get(k).room = way.get(k) * bottles;
            }
            int made = w.run(minutes);
            if (made > most) {
                most = made;
                units = way;
            }
        }
        return most;
    }

    private long unit(int table) {
        must(units != null, 6);
        must(in(table, 0, units.size() - 1), 1);
        return units.get(table);
    }

    private int waiting(int machine, int more, int minutes) {
        Works w = now.copied();
        for (int k = 0; k < w.machines.size(); k++) {
            if (k != machine) {
                w.machines.get(k).speed = Math.min(99, w.machines.get(k).speed + more);
            }
        }
        w.machines.get(machine).spent.clear();
        w.run(minutes);
        Map<String, Integer> spent = w.machines.get(machine).spent;
        return spent.getOrDefault("starved", 0) + spent.getOrDefault("blocked", 0);
    }

    private long waits(int machine, int more, int minutes) {
        at(machine);
        must(in(more, 0, 20) && in(minutes, 1, 600), 1);
        return waiting(machine, more, minutes);
    }

    private long unwaited(int machine, int minutes) {
        at(machine);
        must(in(minutes, 1, 200), 1);
        for (int more = 0; more <= 20; more++) {
            if (waiting(machine, more, minutes) == 0) {
                return more;
            }
        }
        throw new No(6);
    }

    private static final class Enough extends RuntimeException {
        private static final long serialVersionUID = 1;
    }

    private int stepsDone;

    private long work() {
        stepsDone = 0;
        worked = new int[3];
        int before = now.made();
        try {
            doSteps(script);
        } catch (Enough e) {
            worked[2] = 1;
        }
        worked[1] = now.made() - before;
        return stepsDone;
    }

    private void doSteps(List<Step> list) {
        for (Step step : list) {
            if (stepsDone == 100 || worked[0] == 1000) {
                throw new Enough();
            }
            stepsDone++;
            Machine m = step.name == null ? null : now.named(step.name);
            switch (step.word) {
                case "run" -> {
                    for (int k = 0; k < step.number; k++) {
                        if (worked[0] == 1000) {
                            throw new Enough();
                        }
                        now.minute();
                        worked[0]++;
                    }
                }
                case "loop" -> {
                    for (int k = 0; k < step.number; k++) {
                        doSteps(step.body);
                    }
                }
                case "when" -> {
                    if (m != null && step.state.equals(m.how)) {
                        doSteps(step.body);
                    }
                }
                default -> {
                    if (m != null && step.word.equals("speed")) {
                        m.speed = step.number;
                    } else if (m != null) {
                        m.stand = step.number;
                    }
                }
            }
        }
    }

    private long worked(int what) {
        must(in(what, 0, 2), 1);
        must(worked != null, 6);
        return worked[what];
    }

    private long[] row(int tray, int many) {
        must(trays[tray] != null, 2);
        must(trays[tray].length >= many, 3);
        return Arrays.copyOf(trays[tray], many);
    }

    private static void rising(long[] row, int last) {
        for (int k = 0; k < row.length; k++) {
            must(in(row[k], 0, last) && (k == 0 || row[k] > row[k - 1]), 5);
        }
    }

    private long heads(int bottles, int tray, int wrong) {
        must(in(bottles, 1, 9999) && in(tray, 0, 3) && in(wrong, 0, 60), 1);
        long[] row = row(tray, wrong);
        rising(row, bottles - 1);
        BitSet wanted = new BitSet();
        Arrays.stream(row).forEach(b -> wanted.set((int) b));
        List<List<Integer>> ones = new ArrayList<>();
        List<BitSet> under = new ArrayList<>();
        for (int m = 0; m < now.machines.size(); m++) {
            int heads = now.machines.get(m).heads;
            for (int h = 0; h < heads && heads > 1; h++) {
                BitSet bits = new BitSet();
                for (int b = h; b < bottles; b += heads) {
                    bits.set(b);
                }
                ones.add(List.of(m, h));
                under.add(bits);
            }
        }
        List<List<Integer>> sets = new ArrayList<>();
        if (wrong == 0) {
            sets.add(List.of());
        }
        for (int k = 0; k < ones.size() && wrong > 0; k++) {
            if (under.get(k).equals(wanted)) {
                sets.add(ones.get(k));
            }
        }
        if (sets.isEmpty()) {
            addPairs(ones, under, wanted, sets);
        }
        must(!sets.isEmpty(), 6);
        headSets = sets;
        return sets.get(0).size() / 2;
    }

    private static void addPairs(
            List<List<Integer>> ones, List<BitSet> under, BitSet wanted, List<List<Integer>> sets) {
        for (int k = 0; k < ones.size(); k++) {
            for (int j = k + 1; j < ones.size(); j++) {
                BitSet both = (BitSet) under.get(k).clone();
                both.or(under.get(j));
                if (both.equals(wanted)) {
                    sets.add(List.of(ones.get(k).get(0), ones.get(k).get(1), ones.get(j).get(0), ones.get(j).get(1)));
                }
            }
        }
    }

    private long head(int what) {
        must(in(what, 0, 4), 1);
        must(headSets != null, 6);
        must(what == 0 || what <= headSets.get(0).size(), 6);
        return what == 0 ? headSets.size() : headSets.get(0).get(what - 1);
    }

    private long brief(int tray, int many, int n, int least, int most) {
        must(in(tray, 0, 3) && in(many, 1, 60) && in(n, 1, 99) && least <= most, 1);
        long[] row = row(tray, many);
        for (long v : row) {
            must(in(v, -999, 9999), 5);
        }
        BitSet thrown = new BitSet();
        for (int k = 0; k < many; k++) {
            if (in(row[k], least, most)) {
                continue;
            }
            int from = k;
            while (from >= 0 && !in(row[from], least, most)) {
                from--;
            }
            int to = k;
            while (to < many && !in(row[to], least, most)) {
                to++;
            }
            thrown.set(from < 0 ? 0 : from * n + 1, to == many ? (many - 1) * n + 1 : to * n);
        }
        return thrown.cardinality();
    }

    private long glass(int tray, int many) {
        must(in(tray, 0, 3) && in(many, 1, 20), 1);
        long[] row = row(tray, 2 * many);
        BitSet thrown = new BitSet();
        for (int k = 0; k < many; k++) {
            must(in(row[2 * k], 0, now.machines.size() - 1) && in(row[2 * k + 1], 0, 9999), 5);
            int heads = now.machines.get((int) row[2 * k]).heads;
            int bottle = (int) row[2 * k + 1];
            thrown.set(Math.max(0, bottle - heads), bottle + heads + 1);
        }
        return thrown.cardinality();
    }

    private void permute(List<Integer> way, Set<Integer> left, List<List<Integer>> all) {
        if (left.isEmpty()) {
            all.add(new ArrayList<>(way));
        }
        for (int s : left) {
            Set<Integer> rest = new TreeSet<>(left);
            rest.remove(s);
            way.add(s);
            permute(way, rest, all);
            way.remove(way.size() - 1);
        }
    }

    private long order(int set, int first) {
        must(set >= 0 && set < 1 << now.sorts.size() && sort(first) && (set & 1 << first) != 0, 1);
        Set<Integer> left = new TreeSet<>();
        for (int k = 0; k < 7; k++) {
            if ((set & 1 << k) != 0 && k != first) {
                left.add(k);
            }
        }
        List<List<Integer>> all = new ArrayList<>();
        permute(new ArrayList<>(List.of(first)), left, all);
        TreeMap<Integer, List<Integer>> bySum = new TreeMap<>();
        for (List<Integer> way : all) {
            int sum = 0;
            for (int k = 1; k < way.size(); k++) {
                sum += now.wash(way.get(k - 1), way.get(k));
            }
            bySum.putIfAbsent(sum, way);
        }
        ordered = bySum.firstEntry().getValue();
        return bySum.firstKey();
    }

    private long ordered(int place) {
        must(place >= 0, 1);
        must(place < ordered.size(), 6);
        return ordered.get(place);
    }

    private long closes(int tray) {
        must(in(tray, 0, 3), 1);
        int tables = Math.max(0, now.machines.size() - 1);
        long[] row = row(tray, 4 * tables);
        for (long v : row) {
            must(in(v, 0, 1_000_000), 5);
        }
        for (int k = 0; k < tables; k++) {
            if (row[4 * k] - row[4 * k + 1] - row[4 * k + 2] - row[4 * k + 3] != 0) {
                return k;
            }
        }
        return -1;
    }

    private long recall(int hold, int a, int b, int c, int d, int what) {
        must(in(hold, 1, 99) && in(a, 0, 9999) && in(b, a, 9999) && in(c, 0, a) && in(d, b, 9999) && in(what, 0, 3), 1);
        TreeSet<Integer> sure = new TreeSet<>();
        for (int k = a; k <= b; k++) {
            sure.add(k / hold);
        }
        TreeSet<Integer> maybe = new TreeSet<>();
        for (int k = c; k <= d; k++) {
            maybe.add(k / hold);
        }
        maybe.removeAll(sure);
        must(what != 3 || !maybe.isEmpty(), 6);
        return what == 0 ? sure.size() : what == 1 ? sure.first() : what == 2 ? maybe.size() : maybe.first();
    }

    private static void partitions(int[] way, int k, int used, List<int[]> all) {
        if (k == way.length) {
            all.add(way.clone());
            return;
        }
        for (int s = 0; s <= used; s++) {
            way[k] = s;
            partitions(way, k + 1, Math.max(used, s + 1), all);
        }
    }

    private long shifts(int tray, int many, int length) {
        must(in(tray, 0, 3) && in(many, 1, 8) && in(length, 1, 999), 1);
        long[] row = row(tray, many);
        for (long v : row) {
            must(in(v, 1, length), 5);
        }
        List<int[]> all = new ArrayList<>();
        partitions(new int[many], 0, 0, all);
        TreeMap<Integer, int[]> byCount = new TreeMap<>();
        for (int[] way : all) {
            long[] load = new long[8];
            for (int k = 0; k < many; k++) {
                load[way[k]] += row[k];
            }
            if (Arrays.stream(load).max().orElse(0) <= length) {
                byCount.putIfAbsent(Arrays.stream(way).max().orElse(0) + 1, way);
            }
        }
        shiftsOf = Arrays.stream(byCount.firstEntry().getValue()).boxed().toList();
        return byCount.firstKey();
    }

    private long shiftOf(int repair) {
        must(repair >= 0, 1);
        must(repair < shiftsOf.size(), 6);
        return shiftsOf.get(repair);
    }

    private long lot(int tray, int many, int bottle) {
        must(in(tray, 0, 3) && in(many, 1, 30) && in(bottle, 0, 9999), 1);
        long[] row = row(tray, many);
        rising(row, 9999);
        long lots = Arrays.stream(row).filter(v -> v <= bottle).count();
        must(lots > 0, 6);
        return lots - 1;
    }

    private long torn(int tray, int many, int all) {
        must(in(tray, 0, 3) && in(many, 1, 60) && in(all, 0, 9999), 1);
        long[] row = row(tray, many);
        for (long v : row) {
            must(in(v, -1, 99), 5);
        }
        long gone = Arrays.stream(row).filter(v -> v == -1).count();
        long rest = all - Arrays.stream(row).filter(v -> v >= 0).sum();
        must(gone > 0 && rest >= 0 && rest <= 99 * gone, 6);
        fraction(rest, gone);
        return 1;
    }

    private long mark() {
        must(markedWorks.size() < 3, 4);
        markedWorks.push(now.copied());
        markedScripts.push(script);
        return markedWorks.size();
    }

    private long back() {
        must(!markedWorks.isEmpty(), 6);
        now = markedWorks.pop();
        script = markedScripts.pop();
        return markedWorks.size();
    }
}
