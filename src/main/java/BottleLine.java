import java.util.Arrays;

/** A line of machines with tables between them; ../shared/DOC.md says what each call answers. */
public final class BottleLine {
    public static final int NONE = -1;

    private static final int MACHINES = 6;
    private static final int MOST_HEADS = 24;
    private static final int SORTS = 7;
    private static final int TOP_SPEED = 99;
    private static final int MOST_MORE = 20;
    private static final int LONG_RUN = 600;
    private static final int SHORT_RUN = 200;
    private static final int LAST_BOTTLE = 9_999;

    private static final int TRAYS = 4;
    private static final int TRAY_ROOM = 60;
    private static final int MISSING = -1;
    private static final int TAPE_ROOM = 700;
    private static final int FEED = 20;
    private static final int SHIFT_ROOM = 300;
    private static final int MARKS = 3;

    private static final int FINE = 0;
    private static final int BAD_NUMBER = 1;
    private static final int NO_TRAY = 2;
    private static final int NO_PLACE = 3;
    private static final int TOO_MANY = 4;
    private static final int BAD_IN_TRAY = 5;
    private static final int NONE_SUCH = 6;
    private static final int UNLIKE = 8;
    private static final int FAULTY = 9;

    private int status = FINE;
    private long top = 0;
    private long bottom = 1;

    private final long[][] rows = new long[TRAYS][TRAY_ROOM];
    private final int[] rowSort = new int[TRAYS];
    private final int[] rowSize = new int[TRAYS];

    private final Tape tape = new Tape();
    private final LineReader lineReader = new LineReader(tape);
    private final ShiftReader shiftReader = new ShiftReader(tape);

    private final Plan plan = new Plan();
    private final Script script = new Script();
    private final Plan[] markedPlans = new Plan[MARKS];
    private final Script[] markedScripts = new Script[MARKS];
    private int marks = 0;

    private final Trials trials = new Trials();
    private final Doing doing = new Doing();
    private final HeadSearch headSearch = new HeadSearch();
    private final Washing washing = new Washing();
    private final Packing packing = new Packing();

    public BottleLine() {
        Arrays.fill(rowSize, MISSING);
        for (int k = 0; k < MARKS; k++) {
            markedPlans[k] = new Plan();
            markedScripts[k] = new Script();
        }
    }

    public int status() {
        return status;
    }

    public long top() {
        return top;
    }

    public long bottom() {
        return bottom;
    }

    // ---- TRAYS

    public boolean tray(int tray, int sort, int many) {
        if (!isTray(tray) || outside(sort, 0, 3) || outside(many, 0, TRAY_ROOM)) {
            return refused(BAD_NUMBER);
        }
        Arrays.fill(rows[tray], 0L);
        rowSort[tray] = sort;
        rowSize[tray] = many;
        return granted();
    }

    public boolean write(int tray, int place, long v) {
        int lack = placeLack(tray, place);
        if (lack != FINE) {
            return refused(lack);
        }
        rows[tray][place] = cut(v, rowSort[tray]);
        return granted();
    }

    public long read(int tray, int place) {
        int lack = placeLack(tray, place);
        if (lack != FINE) {
            return none(lack);
        }
        status = FINE;
        return rows[tray][place];
    }

    public boolean pour(int from, int place, int to, int at, int many) {
        if (!isTray(from) || !isTray(to) || place < 0 || at < 0 || many < 0) {
            return refused(BAD_NUMBER);
        }
        if (rowSize[from] == MISSING || rowSize[to] == MISSING) {
            return refused(NO_TRAY);
        }
        if (rowSort[from] != rowSort[to]) {
            return refused(UNLIKE);
        }
        if (place > rowSize[from] - many || at > rowSize[to] - many) {
            return refused(NO_PLACE);
        }
        System.arraycopy(rows[from], place, rows[to], at, many);
        return granted();
    }

    // ---- the LINE

    public int feed(int a, int b, int c, int d, int e) {
        if (tape.filled > TAPE_ROOM - FEED) {
            return NONE;
        }
        tape.lay(a);
        tape.lay(b);
        tape.lay(c);
        tape.lay(d);
        tape.lay(e);
        return tape.filled;
    }

    public int line(int n) {
        if (outside(n, 0, tape.filled)) {
            return none(BAD_NUMBER);
        }
        if (!lineReader.takesAll(n)) {
            return none(FAULTY);
        }
        plan.copy(lineReader.fresh);
        return answer(plan.floor.machines);
    }

    public int shift(int n) {
        if (outside(n, 0, Math.min(SHIFT_ROOM, tape.filled))) {
            return none(BAD_NUMBER);
        }
        if (!shiftReader.takesAll(n)) {
            return none(FAULTY);
        }
        script.copy(shiftReader.fresh);
        return answer(script.steps);
    }

    public int fault(int what) {
        if (what == 0) {
            return tape.fault;
        }
        return what == 1 ? tape.faultAt : NONE;
    }

    public int many(int what) {
        switch (what) {
            case 0:
                return answer(plan.floor.machines);
            case 1:
                return answer(plan.sorts);
            case 2:
                return answer(plan.floor.minutesGone);
            case 3:
                return answer(plan.floor.made());
            default:
                return none(BAD_NUMBER);
        }
    }

    public int machine(int machine, int what) {
        if (!isMachine(machine)) {
            return none(BAD_NUMBER);
        }
        Floor floor = plan.floor;
        switch (what) {
            case 0:
                return answer(floor.speed[machine]);
            case 1:
                return answer(plan.headsOf[machine]);
            case 2:
                return answer(floor.stops[machine]);
            case 3:
                return answer(floor.lasts[machine]);
            case 4:
                return answer(floor.stand[machine]);
            case 5:
                return floor.minutesGone == 0 ? none(NONE_SUCH) : answer(floor.how[machine]);
            case 6:
                return answer(floor.bottles[machine]);
            default:
                return none(BAD_NUMBER);
        }
    }

    public int table(int table, int what) {
        if (outside(table, 0, plan.floor.tables() - 1) || outside(what, 0, 1)) {
            return none(BAD_NUMBER);
        }
        return answer(what == 0 ? plan.floor.room[table] : plan.floor.lying[table]);
    }

    public int wash(int from, int to) {
        if (!isSort(from) || !isSort(to) || from == to) {
            return none(BAD_NUMBER);
        }
        return answer(plan.washMinutes(from, to));
    }

    // ---- MINUTES

    public boolean begin(int seed) {
        if (outside(seed, 0, 9_999)) {
            return refused(BAD_NUMBER);
        }
        plan.floor.start(seed);
        return granted();
    }

    public int run(int minutes) {
        if (outside(minutes, 1, LONG_RUN)) {
            return none(BAD_NUMBER);
        }
        if (plan.floor.machines == 0) {
            return none(NONE_SUCH);
        }
        return answer(plan.floor.spend(minutes));
    }

    public int minutes(int machine, int how) {
        if (!isMachine(machine) || outside(how, Floor.WORKS, Floor.STOPPED)) {
            return none(BAD_NUMBER);
        }
        return answer(plan.floor.spent[machine * Floor.STATES + how]);
    }

    public int blame(int machine, int other) {
        if (!isMachine(machine) || !isMachine(other)) {
            return none(BAD_NUMBER);
        }
        return answer(plan.floor.blamed[machine * MACHINES + other]);
    }

    public boolean share(int machine) {
        if (!isMachine(machine)) {
            return refused(BAD_NUMBER);
        }
        if (plan.floor.minutesGone == 0) {
            return refused(NONE_SUCH);
        }
        tell(plan.floor.spent[machine * Floor.STATES + Floor.WORKS], plan.floor.minutesGone);
        return granted();
    }

    public int tried(int machine, int speed, int minutes) {
        if (!isMachine(machine) || outside(speed, 1, TOP_SPEED) || outside(minutes, 1, LONG_RUN)) {
            return none(BAD_NUMBER);
        }
        return answer(trials.madeWith(plan.floor, machine, speed, minutes));
    }

    public int holder(int more, int minutes) {
        if (outside(more, 1, MOST_MORE) || outside(minutes, 1, LONG_RUN)) {
            return none(BAD_NUMBER);
        }
        if (plan.floor.machines == 0) {
            return none(NONE_SUCH);
        }
        return answer(trials.findHolder(plan.floor, more, minutes));
    }

    public int gained() {
        return trials.heldOnce ? answer(trials.gain) : none(NONE_SUCH);
    }

    public int shared(int units, int bottles, int minutes) {
        if (outside(units, 0, 8) || outside(bottles, 1, 99) || outside(minutes, 1, SHORT_RUN)) {
            return none(BAD_NUMBER);
        }
        if (plan.floor.machines < 2) {
            return none(NONE_SUCH);
        }
        return answer(trials.shareOut(plan.floor, units, bottles, minutes));
    }

    public int unit(int table) {
        if (trials.tables == 0) {
            return none(NONE_SUCH);
        }
        if (outside(table, 0, trials.tables - 1)) {
            return none(BAD_NUMBER);
        }
        return answer(trials.bestUnits[table]);
    }

    public int waits(int machine, int more, int minutes) {
        if (!isMachine(machine) || outside(more, 0, MOST_MORE) || outside(minutes, 1, LONG_RUN)) {
            return none(BAD_NUMBER);
        }
        return answer(trials.waitsWith(plan.floor, machine, more, minutes));
    }

    public int unwaited(int machine, int minutes) {
        if (!isMachine(machine) || outside(minutes, 1, SHORT_RUN)) {
            return none(BAD_NUMBER);
        }
        for (int more = 0; more <= MOST_MORE; more++) {
            if (trials.waitsWith(plan.floor, machine, more, minutes) == 0) {
                return answer(more);
            }
        }
        return none(NONE_SUCH);
    }

    public int work() {
        doing.doAll(script, plan);
        return answer(doing.stepsDone);
    }

    public int worked(int what) {
        if (outside(what, 0, 2)) {
            return none(BAD_NUMBER);
        }
        if (!doing.once) {
            return none(NONE_SUCH);
        }
        if (what == 0) {
            return answer(doing.minutesDone);
        }
        return answer(what == 1 ? doing.madeThen : doing.leftOver);
    }

    // ---- bottles

    public int heads(int bottles, int tray, int wrong) {
        if (outside(bottles, 1, 9_999) || !isTray(tray) || outside(wrong, 0, TRAY_ROOM)) {
            return none(BAD_NUMBER);
        }
        int lack = rowLack(tray, wrong);
        if (lack != FINE) {
            return none(lack);
        }
        if (!rises(rows[tray], wrong, bottles - 1)) {
            return none(BAD_IN_TRAY);
        }
        return headSearch.finds(plan, rows[tray], wrong, bottles) ? answer(headSearch.size) : none(NONE_SUCH);
    }

    public int head(int what) {
        if (outside(what, 0, 4)) {
            return none(BAD_NUMBER);
        }
        if (headSearch.sets == 0 || (what + 1) / 2 > headSearch.size) {
            return none(NONE_SUCH);
        }
        if (what == 0) {
            return answer(headSearch.sets);
        }
        int place = what <= 2 ? headSearch.first : headSearch.second;
        return answer(what % 2 == 1 ? place / MOST_HEADS : place % MOST_HEADS);
    }

    public int brief(int tray, int many, int n, int least, int most) {
        if (!isTray(tray) || outside(many, 1, TRAY_ROOM) || outside(n, 1, 99) || most < least) {
            return none(BAD_NUMBER);
        }
        int lack = rowLack(tray, many);
        if (lack != FINE) {
            return none(lack);
        }
        if (!allWithin(rows[tray], many, -999, 9_999)) {
            return none(BAD_IN_TRAY);
        }
        return answer(thrownForShort(rows[tray], many, n, least, most));
    }

    public int glass(int tray, int many) {
        if (!isTray(tray) || outside(many, 1, 20)) {
            return none(BAD_NUMBER);
        }
        int lack = rowLack(tray, 2 * many);
        if (lack != FINE) {
            return none(lack);
        }
        long[] row = rows[tray];
        for (int k = 0; k < many; k++) {
            if (outside(row[2 * k], 0, plan.floor.machines - 1) || outside(row[2 * k + 1], 0, LAST_BOTTLE)) {
                return none(BAD_IN_TRAY);
            }
        }
        return answer(thrownForGlass(row, many));
    }

    public int order(int set, int first) {
        if (outside(set, 0, (1 << plan.sorts) - 1) || !isSort(first) || (set >> first & 1) == 0) {
            return none(BAD_NUMBER);
        }
        return answer(washing.findOrder(plan, set, first));
    }

    public int ordered(int place) {
        if (place < 0) {
            return none(BAD_NUMBER);
        }
        return place < washing.length ? answer(washing.best[place]) : none(NONE_SUCH);
    }

    public int closes(int tray) {
        if (!isTray(tray)) {
            return none(BAD_NUMBER);
        }
        int tables = plan.floor.tables();
        int lack = rowLack(tray, 4 * tables);
        if (lack != FINE) {
            return none(lack);
        }
        long[] row = rows[tray];
        if (!allWithin(row, 4 * tables, 0, 1_000_000)) {
            return none(BAD_IN_TRAY);
        }
        for (int k = 0; k < tables; k++) {
            if (row[4 * k] != row[4 * k + 1] + row[4 * k + 2] + row[4 * k + 3]) {
                return answer(k);
            }
        }
        return answer(NONE);
    }

    public int recall(int hold, int a, int b, int c, int d, int what) {
        if (outside(hold, 1, 99) || outside(what, 0, 3) || c < 0 || a < c || b < a || d < b || d > LAST_BOTTLE) {
            return none(BAD_NUMBER);
        }
        int sureFrom = a / hold;
        int sureTo = b / hold;
        int before = sureFrom - c / hold;
        int after = d / hold - sureTo;
        switch (what) {
            case 0:
                return answer(sureTo - sureFrom + 1);
            case 1:
                return answer(sureFrom);
            case 2:
                return answer(before + after);
            default:
                if (before + after == 0) {
                    return none(NONE_SUCH);
                }
                return answer(before > 0 ? c / hold : sureTo + 1);
        }
    }

    public int shifts(int tray, int many, int length) {
        if (!isTray(tray) || outside(many, 1, Packing.REPAIRS) || outside(length, 1, 999)) {
            return none(BAD_NUMBER);
        }
        int lack = rowLack(tray, many);
        if (lack != FINE) {
            return none(lack);
        }
        if (!allWithin(rows[tray], many, 1, length)) {
            return none(BAD_IN_TRAY);
        }
        return answer(packing.pack(rows[tray], many, length));
    }

    public int shiftOf(int repair) {
        if (repair < 0) {
            return none(BAD_NUMBER);
        }
        return repair < packing.repairs ? answer(packing.placed[repair]) : none(NONE_SUCH);
    }

    public int lot(int tray, int many, int bottle) {
        if (!isTray(tray) || outside(many, 1, 30) || outside(bottle, 0, LAST_BOTTLE)) {
            return none(BAD_NUMBER);
        }
        int lack = rowLack(tray, many);
        if (lack != FINE) {
            return none(lack);
        }
        long[] row = rows[tray];
        if (!rises(row, many, LAST_BOTTLE)) {
            return none(BAD_IN_TRAY);
        }
        int lot = many - 1;
        while (lot >= 0 && row[lot] > bottle) {
            lot--;
        }
        return lot < 0 ? none(NONE_SUCH) : answer(lot);
    }

    public boolean torn(int tray, int many, int all) {
        if (!isTray(tray) || outside(many, 1, TRAY_ROOM) || outside(all, 0, 9_999)) {
            return refused(BAD_NUMBER);
        }
        int lack = rowLack(tray, many);
        if (lack != FINE) {
            return refused(lack);
        }
        long[] row = rows[tray];
        if (!allWithin(row, many, -1, 99)) {
            return refused(BAD_IN_TRAY);
        }
        int gone = 0;
        long rest = all;
        for (int k = 0; k < many; k++) {
            if (row[k] < 0) {
                gone++;
            } else {
                rest -= row[k];
            }
        }
        if (gone == 0 || rest < 0 || rest > 99L * gone) {
            return refused(NONE_SUCH);
        }
        tell(rest, gone);
        return granted();
    }

    // ---- MARKS

    public int mark() {
        if (marks >= MARKS) {
            return none(TOO_MANY);
        }
        markedPlans[marks].copy(plan);
        markedScripts[marks].copy(script);
        marks++;
        return answer(marks);
    }

    public int back() {
        if (marks <= 0) {
            return none(NONE_SUCH);
        }
        marks--;
        plan.copy(markedPlans[marks]);
        script.copy(markedScripts[marks]);
        return answer(marks);
    }

    // ---- what the calls share

    private int answer(int value) {
        status = FINE;
        return value;
    }

    private int none(int why) {
        status = why;
        return NONE;
    }

    private boolean granted() {
        status = FINE;
        return true;
    }

    private boolean refused(int why) {
        status = why;
        return false;
    }

    private static boolean outside(long v, long least, long most) {
        return v < least || v > most;
    }

    private static boolean isTray(int tray) {
        return tray >= 0 && tray < TRAYS;
    }

    private boolean isMachine(int machine) {
        return machine >= 0 && machine < plan.floor.machines;
    }

    private boolean isSort(int sort) {
        return sort >= 0 && sort < plan.sorts;
    }

    private int placeLack(int tray, int place) {
        if (!isTray(tray)) {
            return BAD_NUMBER;
        }
        if (rowSize[tray] == MISSING) {
            return NO_TRAY;
        }
        return outside(place, 0, rowSize[tray] - 1) ? NO_PLACE : FINE;
    }

    private int rowLack(int tray, int numbers) {
        if (rowSize[tray] == MISSING) {
            return NO_TRAY;
        }
        return numbers > rowSize[tray] ? NO_PLACE : FINE;
    }

    private static long cut(long v, int sort) {
        switch (sort) {
            case 0:
                return (byte) v;
            case 1:
                return (short) v;
            case 2:
                return (int) v;
            default:
                return v;
        }
    }

    private static boolean allWithin(long[] row, int many, long least, long most) {
        for (int k = 0; k < many; k++) {
            if (outside(row[k], least, most)) {
                return false;
            }
        }
        return true;
    }

    /** Whether the first numbers of a row are bottles from 0 to a last one, each above the one ahead of it. */
    private static boolean rises(long[] row, int many, int last) {
        for (int k = 0; k < many; k++) {
            if (outside(row[k], k == 0 ? 0 : row[k - 1] + 1, last)) {
                return false;
            }
        }
        return true;
    }

    private void tell(long upper, long lower) {
        long divisor = commonDivisor(upper, lower);
        top = divisor == 0 ? 0 : upper / divisor;
        bottom = divisor == 0 ? 1 : lower / divisor;
    }

    private static long commonDivisor(long a, long b) {
        long divisor = a;
        long rest = b;
        for (int turns = 0; turns < 100 && rest != 0; turns++) {
            long next = divisor % rest;
            divisor = rest;
            rest = next;
        }
        return divisor;
    }

    private static int thrownForShort(long[] row, int many, int n, int least, int most) {
        int thrown = 0;
        int from = 0;
        boolean shortOnes = false;
        for (int k = 0; k < many; k++) {
            if (outside(row[k], least, most)) {
                shortOnes = true;
                continue;
            }
            thrown += shortOnes ? k * n - from : 0;
            from = k * n + 1;
            shortOnes = false;
        }
        // Behind the bottle weighed last nothing is thrown, whatever came there.
        return shortOnes ? thrown + (many - 1) * n + 1 - from : thrown;
    }

    private int thrownForGlass(long[] row, int many) {
        int thrown = 0;
        for (int k = 0; k < many; k++) {
            int reach = plan.headsOf[(int) row[2 * k]];
            for (long bottle = Math.max(0, row[2 * k + 1] - reach); bottle <= row[2 * k + 1] + reach; bottle++) {
                if (!thrownAlready(row, k, bottle)) {
                    thrown++;
                }
            }
        }
        return thrown;
    }

    private boolean thrownAlready(long[] row, int couples, long bottle) {
        for (int k = 0; k < couples; k++) {
            if (Math.abs(row[2 * k + 1] - bottle) <= plan.headsOf[(int) row[2 * k]]) {
                return true;
            }
        }
        return false;
    }

    /** What a LINE tells of its MACHINES and SORTS, with the floor on which its MINUTES go by. */
    private static final class Plan {
        private static final int USUAL_WASH = 10;
        private static final int UNTOLD = -1;

        final Floor floor = new Floor();
        final long[] names = new long[MACHINES];
        final int[] headsOf = new int[MACHINES];
        final int[] washes = new int[SORTS * SORTS];
        int sorts = 0;

        void clear() {
            floor.machines = 0;
            floor.start(0);
            sorts = 0;
            Arrays.fill(washes, UNTOLD);
        }

        void copy(Plan other) {
            floor.copy(other.floor);
            System.arraycopy(other.names, 0, names, 0, MACHINES);
            System.arraycopy(other.headsOf, 0, headsOf, 0, MACHINES);
            System.arraycopy(other.washes, 0, washes, 0, SORTS * SORTS);
            sorts = other.sorts;
        }

        int machineNamed(long name) {
            for (int m = 0; m < floor.machines; m++) {
                if (names[m] == name) {
                    return m;
                }
            }
            return NONE;
        }

        boolean washTold(int from, int to) {
            return washes[from * SORTS + to] != UNTOLD;
        }

        int washMinutes(int from, int to) {
            return washTold(from, to) ? washes[from * SORTS + to] : USUAL_WASH;
        }
    }

    /** The MACHINES as they run, and all that is counted since they were BEGUN. */
    private static final class Floor {
        static final int WORKS = 0;
        static final int STARVED = 1;
        static final int BLOCKED = 2;
        static final int STOPPED = 3;
        static final int STATES = 4;
        private static final int ENDLESS = 1_000_000;

        int machines = 0;
        final int[] speed = new int[MACHINES];
        final int[] stops = new int[MACHINES];
        final int[] lasts = new int[MACHINES];
        final int[] room = new int[MACHINES];

        int seed = 0;
        int drawn = 0;
        int minutesGone = 0;
        final int[] stand = new int[MACHINES];
        final int[] how = new int[MACHINES];
        final int[] bottles = new int[MACHINES];
        final int[] lying = new int[MACHINES];
        final int[] spent = new int[MACHINES * STATES];
        final int[] blamed = new int[MACHINES * MACHINES];

        void start(int newSeed) {
            seed = newSeed;
            drawn = newSeed;
            minutesGone = 0;
            Arrays.fill(stand, 0);
            Arrays.fill(how, NONE);
            Arrays.fill(bottles, 0);
            Arrays.fill(lying, 0);
            Arrays.fill(spent, 0);
            Arrays.fill(blamed, 0);
        }

        void copy(Floor other) {
            machines = other.machines;
            seed = other.seed;
            drawn = other.drawn;
            minutesGone = other.minutesGone;
            System.arraycopy(other.speed, 0, speed, 0, MACHINES);
            System.arraycopy(other.stops, 0, stops, 0, MACHINES);
            System.arraycopy(other.lasts, 0, lasts, 0, MACHINES);
            System.arraycopy(other.room, 0, room, 0, MACHINES);
            System.arraycopy(other.stand, 0, stand, 0, MACHINES);
            System.arraycopy(other.how, 0, how, 0, MACHINES);
            System.arraycopy(other.bottles, 0, bottles, 0, MACHINES);
            System.arraycopy(other.lying, 0, lying, 0, MACHINES);
            System.arraycopy(other.spent, 0, spent, 0, MACHINES * STATES);
            System.arraycopy(other.blamed, 0, blamed, 0, MACHINES * MACHINES);
        }

        int tables() {
            return Math.max(0, machines - 1);
        }

        int made() {
            return machines == 0 ? 0 : bottles[machines - 1];
        }

        /** Bottles MADE in so many MINUTES. */
        int spend(int minutes) {
            int before = made();
            for (int k = 0; k < minutes; k++) {
                goOn();
                countStates();
            }
            return made() - before;
        }

        int wouldMake(int minutes) {
            int before = made();
            for (int k = 0; k < minutes; k++) {
                goOn();
            }
            return made() - before;
        }

        /** A MINUTE without what is counted of its states: trials have no use for that. */
        void goOn() {
            for (int m = 0; m < machines; m++) {
                how[m] = standsStill(m) ? STOPPED : WORKS;
            }
            for (int m = machines - 1; m >= 0; m--) {
                if (how[m] != STOPPED) {
                    how[m] = moveBottles(m);
                }
            }
            minutesGone++;
        }

        private boolean standsStill(int m) {
            if (stand[m] > 0) {
                stand[m]--;
                return true;
            }
            if (stops[m] == 0 || draw() >= stops[m]) {
                return false;
            }
            stand[m] = lasts[m] - 1;
            return true;
        }

        /** A draw by 64: all that are drawn here are stops. */
        private int draw() {
            drawn = (drawn * 3_373 + 12_289) % 65_536;
            return drawn / 8 % 64;
        }

        private int moveBottles(int m) {
            int ahead = m == 0 ? ENDLESS : lying[m - 1];
            int free = m == machines - 1 ? ENDLESS : room[m] - lying[m];
            int taken = Math.min(speed[m], Math.min(ahead, free));
            if (m > 0) {
                lying[m - 1] -= taken;
            }
            if (m < machines - 1) {
                lying[m] += taken;
            }
            bottles[m] += taken;
            if (taken == speed[m]) {
                return WORKS;
            }
            return ahead < speed[m] && ahead <= free ? STARVED : BLOCKED;
        }

        private void countStates() {
            for (int m = 0; m < machines; m++) {
                spent[m * STATES + how[m]]++;
                if (how[m] == STARVED) {
                    blamed[m * MACHINES + starverOf(m)]++;
                } else if (how[m] == BLOCKED) {
                    blamed[m * MACHINES + blockerOf(m)]++;
                }
            }
        }

        /** The first one never starves: if all between do, it is to blame. */
        private int starverOf(int m) {
            for (int other = m - 1; other > 0; other--) {
                if (how[other] != STARVED) {
                    return other;
                }
            }
            return 0;
        }

        /** The last one is never blocked: if all between are, it is to blame. */
        private int blockerOf(int m) {
            for (int other = m + 1; other < machines - 1; other++) {
                if (how[other] != BLOCKED) {
                    return other;
                }
            }
            return machines - 1;
        }
    }

    /** A SHIFT: its STEPS as they stand; a block holds the STEPS from the one behind it up to its end. */
    private static final class Script {
        static final int STEPS = 30;
        static final int DEPTH = 3;
        static final int RUN = 0;
        static final int SPEED = 1;
        static final int HALT = 2;
        static final int MEND = 3;
        static final int LOOP = 4;
        static final int WHEN = 5;

        int steps = 0;
        final int[] kinds = new int[STEPS];
        final long[] names = new long[STEPS];
        final int[] numbers = new int[STEPS];
        final int[] ends = new int[STEPS];

        void copy(Script other) {
            steps = other.steps;
            System.arraycopy(other.kinds, 0, kinds, 0, STEPS);
            System.arraycopy(other.names, 0, names, 0, STEPS);
            System.arraycopy(other.numbers, 0, numbers, 0, STEPS);
            System.arraycopy(other.ends, 0, ends, 0, STEPS);
        }
    }

    /** The tape, the TOKENS of the text on it, one at a time, and the first FAULT found among them. */
    private static final class Tape {
        static final int END = 0;
        static final int WORD = 1;
        static final int NUMBER = 2;
        static final int SIGN = 3;
        static final int NOTHING = 4;
        private static final int NAME_LETTERS = 8;
        private static final int DIGITS = 4;

        private final byte[] text = new byte[TAPE_ROOM];
        int filled = 0;
        private int length = 0;
        private int next = 0;

        int kind = END;
        private int from = 0;
        /** The letters of a WORD, five bits each: enough to tell all NAMES apart. */
        long letters = 0;
        private int number = 0;
        int taken = 0;
        int fault = NONE;
        int faultAt = NONE;

        void lay(int four) {
            for (int by = 24; by >= 0; by -= 8) {
                if (filled < TAPE_ROOM) {
                    text[filled] = (byte) (four >> by);
                    filled++;
                }
            }
        }

        /** The first n bytes are the text now; those behind it are lost. */
        void open(int n) {
            length = Math.min(n, filled);
            filled = 0;
            next = 0;
            fault = 0;
            faultAt = NONE;
            advance();
        }

        void advance() {
            while (next < length && (text[next] == ' ' || text[next] == '\n')) {
                next++;
            }
            from = next;
            if (next >= length) {
                kind = END;
            } else if (text[next] >= 'a' && text[next] <= 'z') {
                readWord();
            } else if (text[next] >= '0' && text[next] <= '9') {
                readNumber();
            } else {
                kind = text[next] == ';' ? SIGN : NOTHING;
                next++;
            }
        }

        private void readWord() {
            kind = WORD;
            letters = 0;
            while (next < length && text[next] >= 'a' && text[next] <= 'z') {
                letters = letters << 5 | text[next] - 'a' + 1;
                next++;
            }
        }

        private void readNumber() {
            number = 0;
            while (next < length && text[next] >= '0' && text[next] <= '9') {
                number = number * 10 + text[next] - '0';
                next++;
            }
            kind = next - from <= DIGITS ? NUMBER : NOTHING;
        }

        boolean is(String word) {
            if (kind != WORD || next - from != word.length()) {
                return false;
            }
            for (int k = 0; k < word.length(); k++) {
                if (text[from + k] != word.charAt(k)) {
                    return false;
                }
            }
            return true;
        }

        boolean isShortWord() {
            return kind == WORD && next - from <= NAME_LETTERS;
        }

        boolean wrong(int what) {
            fault = what;
            faultAt = from;
            return false;
        }

        boolean misplaced() {
            return wrong(kind == NOTHING ? 1 : 2);
        }

        boolean takeWord(String word) {
            if (!is(word)) {
                return misplaced();
            }
            advance();
            return true;
        }

        boolean takeSign() {
            if (kind != SIGN) {
                return misplaced();
            }
            advance();
            return true;
        }

        boolean takeNumber(int least, int most) {
            if (kind != NUMBER) {
                return misplaced();
            }
            if (outside(number, least, most)) {
                return wrong(4);
            }
            taken = number;
            advance();
            return true;
        }
    }

    /** Reads a LINE into a fresh plan. */
    private static final class LineReader {
        private static final int USUAL_ROOM = 20;

        private final Tape tape;
        final Plan fresh = new Plan();
        private final long[] sortNames = new long[SORTS];
        private boolean headsTold = false;
        private boolean stopsTold = false;
        private boolean tableTold = false;

        LineReader(Tape tape) {
            this.tape = tape;
        }

        boolean takesAll(int n) {
            fresh.clear();
            tape.open(n);
            for (int parts = 0; parts <= TAPE_ROOM; parts++) {
                if (tape.kind == Tape.END) {
                    return true;
                }
                if (!takePart()) {
                    return false;
                }
            }
            return false;
        }

        private boolean takePart() {
            if (tape.is("machine")) {
                return takeMachine();
            }
            if (tape.is("table")) {
                return takeTable();
            }
            if (tape.is("sort")) {
                return takeSort();
            }
            return tape.is("wash") ? takeWash() : tape.misplaced();
        }

        private boolean isName() {
            return tape.isShortWord()
                && !tape.is("machine") && !tape.is("speed") && !tape.is("heads") && !tape.is("stops")
                && !tape.is("lasts") && !tape.is("table") && !tape.is("sort") && !tape.is("wash");
        }

        private boolean takeMachine() {
            int m = fresh.floor.machines;
            if (m >= MACHINES) {
                return tape.wrong(6);
            }
            tape.advance();
            if (!isName()) {
                return tape.misplaced();
            }
            if (fresh.machineNamed(tape.letters) != NONE) {
                return tape.wrong(3);
            }
            addMachine(m, tape.letters);
            tape.advance();
            if (!tape.takeWord("speed") || !tape.takeNumber(1, TOP_SPEED)) {
                return false;
            }
            fresh.floor.speed[m] = tape.taken;
            // A third option is one told already, so three turns see every fault.
            for (int options = 0; options < 3 && (tape.is("heads") || tape.is("stops")); options++) {
                if (!(tape.is("heads") ? takeHeads(m) : takeStops(m))) {
                    return false;
                }
            }
            return tape.takeSign();
        }

        private void addMachine(int m, long name) {
            fresh.names[m] = name;
            fresh.headsOf[m] = 1;
            fresh.floor.stops[m] = 0;
            fresh.floor.lasts[m] = 0;
            fresh.floor.room[m] = USUAL_ROOM;
            fresh.floor.machines = m + 1;
            headsTold = false;
            stopsTold = false;
            tableTold = false;
        }

        private boolean takeHeads(int m) {
            if (headsTold) {
                return tape.wrong(5);
            }
            headsTold = true;
            tape.advance();
            if (!tape.takeNumber(1, MOST_HEADS)) {
                return false;
            }
            fresh.headsOf[m] = tape.taken;
            return true;
        }

        private boolean takeStops(int m) {
            if (stopsTold) {
                return tape.wrong(5);
            }
            stopsTold = true;
            tape.advance();
            if (!tape.takeNumber(0, 64)) {
                return false;
            }
            fresh.floor.stops[m] = tape.taken;
            if (!tape.takeWord("lasts") || !tape.takeNumber(1, 99)) {
                return false;
            }
            fresh.floor.lasts[m] = tape.taken;
            return true;
        }

        private boolean takeTable() {
            int m = fresh.floor.machines - 1;
            if (m < 0 || tableTold) {
                return tape.wrong(5);
            }
            tableTold = true;
            tape.advance();
            if (!tape.takeNumber(0, 999)) {
                return false;
            }
            fresh.floor.room[m] = tape.taken;
            return tape.takeSign();
        }

        private boolean takeSort() {
            if (fresh.sorts >= SORTS) {
                return tape.wrong(6);
            }
            tape.advance();
            if (!isName()) {
                return tape.misplaced();
            }
            if (sortNamed(tape.letters) != NONE) {
                return tape.wrong(3);
            }
            sortNames[fresh.sorts] = tape.letters;
            fresh.sorts++;
            tape.advance();
            return tape.takeSign();
        }

        private boolean takeWash() {
            tape.advance();
            int from = sortHere();
            if (from == NONE) {
                return false;
            }
            tape.advance();
            int to = sortHere();
            if (to == NONE) {
                return false;
            }
            if (from == to || fresh.washTold(from, to)) {
                return tape.wrong(5);
            }
            tape.advance();
            if (!tape.takeNumber(0, 999)) {
                return false;
            }
            fresh.washes[from * SORTS + to] = tape.taken;
            return tape.takeSign();
        }

        /** The SORT that is named here, or NONE with the fault told. */
        private int sortHere() {
            if (!isName()) {
                tape.misplaced();
                return NONE;
            }
            int sort = sortNamed(tape.letters);
            if (sort == NONE) {
                tape.wrong(3);
            }
            return sort;
        }

        private int sortNamed(long name) {
            for (int k = 0; k < fresh.sorts; k++) {
                if (sortNames[k] == name) {
                    return k;
                }
            }
            return NONE;
        }
    }

    /** Reads a SHIFT into a fresh script. */
    private static final class ShiftReader {
        private final Tape tape;
        final Script fresh = new Script();
        private final int[] open = new int[Script.DEPTH];
        private int depth = 0;

        ShiftReader(Tape tape) {
            this.tape = tape;
        }

        boolean takesAll(int n) {
            fresh.steps = 0;
            depth = 0;
            tape.open(n);
            for (int turns = 0; turns <= SHIFT_ROOM; turns++) {
                if (tape.kind == Tape.END) {
                    return depth == 0 || tape.misplaced();
                }
                if (!(tape.is("end") ? takeEnd() : takeStep())) {
                    return false;
                }
            }
            return false;
        }

        private boolean takeEnd() {
            if (depth == 0) {
                return tape.misplaced();
            }
            depth--;
            fresh.ends[open[depth]] = fresh.steps;
            tape.advance();
            return tape.takeSign();
        }

        private boolean takeStep() {
            int kind = kindHere();
            boolean opens = kind == Script.LOOP || kind == Script.WHEN;
            if (kind == NONE) {
                return tape.misplaced();
            }
            if (opens && depth >= Script.DEPTH) {
                return tape.wrong(5);
            }
            if (fresh.steps >= Script.STEPS) {
                return tape.wrong(6);
            }
            int step = fresh.steps;
            fresh.steps++;
            fresh.kinds[step] = kind;
            if (opens) {
                open[depth] = step;
                depth++;
            }
            tape.advance();
            return takeDetails(kind, step) && tape.takeSign();
        }

        private int kindHere() {
            if (tape.is("run")) {
                return Script.RUN;
            }
            if (tape.is("speed")) {
                return Script.SPEED;
            }
            if (tape.is("halt")) {
                return Script.HALT;
            }
            if (tape.is("mend")) {
                return Script.MEND;
            }
            if (tape.is("loop")) {
                return Script.LOOP;
            }
            return tape.is("when") ? Script.WHEN : NONE;
        }

        private boolean takeDetails(int kind, int step) {
            switch (kind) {
                case Script.RUN:
                    return takeAmount(step, 1, 60);
                case Script.SPEED:
                    return takeName(step) && takeAmount(step, 1, TOP_SPEED);
                case Script.HALT:
                    return takeName(step) && takeAmount(step, 0, 99);
                case Script.LOOP:
                    return takeAmount(step, 1, 9);
                case Script.WHEN:
                    return takeName(step) && takeState(step);
                default:
                    return takeName(step);
            }
        }

        private boolean takeAmount(int step, int least, int most) {
            if (!tape.takeNumber(least, most)) {
                return false;
            }
            fresh.numbers[step] = tape.taken;
            return true;
        }

        private boolean takeName(int step) {
            if (!tape.isShortWord() || kindHere() != NONE || tape.is("end") || stateHere() != NONE) {
                return tape.misplaced();
            }
            fresh.names[step] = tape.letters;
            tape.advance();
            return true;
        }

        private boolean takeState(int step) {
            int state = stateHere();
            if (state == NONE) {
                return tape.misplaced();
            }
            fresh.numbers[step] = state;
            tape.advance();
            return true;
        }

        private int stateHere() {
            if (tape.is("works")) {
                return Floor.WORKS;
            }
            if (tape.is("starved")) {
                return Floor.STARVED;
            }
            if (tape.is("blocked")) {
                return Floor.BLOCKED;
            }
            return tape.is("stopped") ? Floor.STOPPED : NONE;
        }
    }

    /** Does a SHIFT, and keeps what came of the latest one. */
    private static final class Doing {
        private static final int MOST_STEPS = 100;
        private static final int MOST_MINUTES = 1_000;

        boolean once = false;
        int stepsDone = 0;
        int minutesDone = 0;
        int madeThen = 0;
        int leftOver = 0;

        private int at = 0;
        private int depth = 0;
        private final int[] open = new int[Script.DEPTH];
        private final int[] rounds = new int[Script.DEPTH];

        void doAll(Script script, Plan plan) {
            once = true;
            stepsDone = 0;
            minutesDone = 0;
            madeThen = 0;
            leftOver = 0;
            at = 0;
            depth = 0;
            for (int turns = 0; turns <= MOST_STEPS; turns++) {
                leaveBlocks(script);
                if (at >= script.steps) {
                    return;
                }
                if (stepsDone >= MOST_STEPS || minutesDone >= MOST_MINUTES) {
                    leftOver = 1;
                    return;
                }
                stepsDone++;
                doStep(script, plan);
            }
        }

        private void doStep(Script script, Plan plan) {
            int step = at;
            at++;
            switch (script.kinds[step]) {
                case Script.RUN:
                    doRun(plan.floor, script.numbers[step]);
                    break;
                case Script.LOOP:
                    enterBlock(script, step, script.numbers[step]);
                    break;
                case Script.WHEN:
                    enterBlock(script, step, wasSo(script, step, plan) ? 1 : 0);
                    break;
                default:
                    handle(script, step, plan);
                    break;
            }
        }

        private void doRun(Floor floor, int wanted) {
            int minutes = Math.min(wanted, MOST_MINUTES - minutesDone);
            madeThen += floor.spend(minutes);
            minutesDone += minutes;
            if (minutes < wanted) {
                leftOver = 1;
            }
        }

        private static boolean wasSo(Script script, int step, Plan plan) {
            int m = plan.machineNamed(script.names[step]);
            return m != NONE && plan.floor.how[m] == script.numbers[step];
        }

        private static void handle(Script script, int step, Plan plan) {
            int m = plan.machineNamed(script.names[step]);
            if (m == NONE) {
                return;
            }
            if (script.kinds[step] == Script.SPEED) {
                plan.floor.speed[m] = script.numbers[step];
            } else {
                plan.floor.stand[m] = script.kinds[step] == Script.HALT ? script.numbers[step] : 0;
            }
        }

        /** An empty block is passed by, so that within an open one there always is a STEP to come to. */
        private void enterBlock(Script script, int step, int times) {
            if (times == 0 || script.ends[step] == step + 1 || depth >= Script.DEPTH) {
                at = script.ends[step];
                return;
            }
            open[depth] = step;
            rounds[depth] = times;
            depth++;
        }

        private void leaveBlocks(Script script) {
            while (depth > 0 && at >= script.ends[open[depth - 1]]) {
                rounds[depth - 1]--;
                if (rounds[depth - 1] > 0) {
                    at = open[depth - 1] + 1;
                    return;
                }
                depth--;
            }
        }
    }

    /** What would be, tried on a floor of its own. */
    private static final class Trials {
        private final Floor trial = new Floor();

        boolean heldOnce = false;
        int gain = 0;

        int tables = 0;
        final int[] bestUnits = new int[MACHINES - 1];
        private final int[] units = new int[MACHINES - 1];
        private int most = 0;

        int madeWith(Floor floor, int machine, int speed, int minutes) {
            trial.copy(floor);
            trial.speed[machine] = speed;
            return trial.wouldMake(minutes);
        }

        int findHolder(Floor floor, int more, int minutes) {
            int asIs = madeWith(floor, 0, floor.speed[0], minutes);
            int best = 0;
            int bestMade = NONE;
            for (int m = 0; m < floor.machines; m++) {
                int made = madeWith(floor, m, faster(floor.speed[m], more), minutes);
                if (made > bestMade) {
                    best = m;
                    bestMade = made;
                }
            }
            heldOnce = true;
            gain = bestMade - asIs;
            return best;
        }

        int waitsWith(Floor floor, int machine, int more, int minutes) {
            trial.copy(floor);
            for (int m = 0; m < floor.machines; m++) {
                trial.speed[m] = m == machine ? floor.speed[m] : faster(floor.speed[m], more);
            }
            int waits = 0;
            for (int k = 0; k < minutes; k++) {
                trial.goOn();
                if (trial.how[machine] == Floor.STARVED || trial.how[machine] == Floor.BLOCKED) {
                    waits++;
                }
            }
            return waits;
        }

        private static int faster(int speed, int more) {
            return Math.min(TOP_SPEED, speed + more);
        }

        int shareOut(Floor floor, int left, int bottles, int minutes) {
            trial.copy(floor);
            tables = floor.tables();
            most = NONE;
            shareFrom(0, left, bottles, minutes);
            return most;
        }

        /** Ways come with the fewer units ahead, so the first one that makes most is the one that stays. */
        private void shareFrom(int table, int left, int bottles, int minutes) {
            if (table >= tables - 1) {
                units[table] = left;
                trySharing(bottles, minutes);
                return;
            }
            for (int many = 0; many <= left; many++) {
                units[table] = many;
                shareFrom(table + 1, left - many, bottles, minutes);
            }
        }

        private void trySharing(int bottles, int minutes) {
            for (int k = 0; k < tables; k++) {
                trial.room[k] = units[k] * bottles;
            }
            trial.start(trial.seed);
            int made = trial.wouldMake(minutes);
            if (made > most) {
                most = made;
                System.arraycopy(units, 0, bestUnits, 0, tables);
            }
        }
    }

    /** HEADS AMISS: a HEAD is kept as MACHINE times 24 and its number. */
    private static final class HeadSearch {
        private static final int ALL_HEADS = MACHINES * MOST_HEADS;
        private static final long UNFIT = -1;

        /** Which of the wrong bottles are under a HEAD, a bit each; UNFIT if a good one is, too. */
        private final long[] covered = new long[ALL_HEADS];
        int size = 0;
        int sets = 0;
        int first = 0;
        int second = 0;

        boolean finds(Plan plan, long[] row, int wrong, int bottles) {
            if (wrong == 0) {
                size = 0;
                sets = 1;
                return true;
            }
            for (int k = 0; k < ALL_HEADS; k++) {
                covered[k] = coveredBy(k % MOST_HEADS, headsAt(plan, k / MOST_HEADS), row, wrong, bottles);
            }
            long all = (1L << wrong) - 1;
            return findsOne(all) || findsTwo(all);
        }

        private static int headsAt(Plan plan, int m) {
            return m < plan.floor.machines ? plan.headsOf[m] : 0;
        }

        private static long coveredBy(int head, int heads, long[] row, int wrong, int bottles) {
            if (heads <= 1 || head >= heads) {
                return UNFIT;
            }
            long bits = 0;
            for (int k = 0; k < wrong; k++) {
                if (row[k] % heads == head) {
                    bits |= 1L << k;
                }
            }
            int under = (bottles - 1 - head + heads) / heads;
            return Long.bitCount(bits) == under ? bits : UNFIT;
        }

        private boolean findsOne(long all) {
            int found = 0;
            for (int k = 0; k < ALL_HEADS; k++) {
                if (covered[k] == all) {
                    first = found == 0 ? k : first;
                    found++;
                }
            }
            return keeps(1, found);
        }

        private boolean findsTwo(long all) {
            int found = 0;
            for (int k = 0; k < ALL_HEADS; k++) {
                for (int j = k + 1; covered[k] != UNFIT && j < ALL_HEADS; j++) {
                    if (covered[j] != UNFIT && (covered[k] | covered[j]) == all) {
                        first = found == 0 ? k : first;
                        second = found == 0 ? j : second;
                        found++;
                    }
                }
            }
            return keeps(2, found);
        }

        private boolean keeps(int many, int found) {
            if (found == 0) {
                return false;
            }
            size = many;
            sets = found;
            return true;
        }
    }

    /** ORDER: the way from SORT to SORT with the least WASH. */
    private static final class Washing {
        /** Above any sum of washes. */
        private static final int UNFOUND = 1_000_000;

        private final int[] way = new int[SORTS];
        final int[] best = new int[SORTS];
        int length = 0;
        private int least = 0;

        int findOrder(Plan plan, int set, int start) {
            length = Integer.bitCount(set);
            least = UNFOUND;
            way[0] = start;
            goOnFrom(plan, 1, set & ~(1 << start), 0);
            return least;
        }

        /** Lesser SORTS are tried first, so only a way with less WASH may replace one found already. */
        private void goOnFrom(Plan plan, int place, int left, int sum) {
            if (left == 0 || place >= SORTS) {
                least = sum;
                System.arraycopy(way, 0, best, 0, length);
                return;
            }
            for (int sort = 0; sort < plan.sorts; sort++) {
                int next = sum + plan.washMinutes(way[place - 1], sort);
                if ((left >> sort & 1) == 1 && next < least) {
                    way[place] = sort;
                    goOnFrom(plan, place + 1, left & ~(1 << sort), next);
                }
            }
        }
    }

    /** SHIFTS: repairs laid into as few shifts as can be. */
    private static final class Packing {
        static final int REPAIRS = 8;

        final int[] placed = new int[REPAIRS];
        int repairs = 0;
        private final long[] load = new long[REPAIRS];

        int pack(long[] row, int many, int length) {
            repairs = many;
            Arrays.fill(load, 0L);
            for (int fewest = 1; fewest < many; fewest++) {
                if (fits(row, 0, 0, fewest, length)) {
                    return fewest;
                }
            }
            fits(row, 0, 0, many, length);
            return many;
        }

        private boolean fits(long[] row, int repair, int used, int limit, int length) {
            if (repair >= repairs) {
                return true;
            }
            for (int shift = 0; shift <= used && shift < limit; shift++) {
                if (load[shift] + row[repair] > length) {
                    continue;
                }
                load[shift] += row[repair];
                placed[repair] = shift;
                if (fits(row, repair + 1, Math.max(used, shift + 1), limit, length)) {
                    return true;
                }
                load[shift] -= row[repair];
            }
            return false;
        }
    }
}
