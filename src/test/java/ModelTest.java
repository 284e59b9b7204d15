import java.util.ArrayList;
import java.util.Arrays;
import java.util.List;
import java.util.Random;

/** Drawn runs of calls, each answer and each STATUS held against the Model's. */
public final class ModelTest {
    private static final int RUNS = 1200;
    private static final String[] CALLS = {
        "many", "machine", "machine", "table", "wash", "begin", "run", "run", "minutes", "blame", "blame", "share",
        "tried", "holder", "gained", "shared", "unit", "waits", "unwaited", "work", "worked", "worked", "fault",
        "mark", "back", "order", "ordered", "ordered", "recall", "shiftOf", "head", "read", "write", "pour", "tray",
        "line!", "line!", "shift!", "shift!", "heads!", "heads!", "brief!", "glass!", "closes!", "shifts!", "lot!",
        "torn!", "odd!", "odd!", "state!", "line", "shift",
    };
    private static final String[] WORDS = {
        "machine", "speed", "heads", "stops", "lasts", "table", "sort", "wash", "run", "halt", "mend", "loop", "when",
        "end", "works", "starved", "blocked", "stopped", "a", "b", "fill", "abcdefgh", "abcdefghi", ";", "0", "7",
        "99", "100", "0005", "1000", "12345", "?", "A", "\u0000", "\u00ff", "\t", "",
    };
    private static final String[] NAMES = {"a", "b", "c", "fill", "cork", "abcdefgh", "run", "ale", "zzzzzzzz", "end"};
    private static final long[] ODD = {
        Integer.MIN_VALUE, -1000, -2, -1, 0, 1, 2, 3, 4, 5, 6, 7, 8, 9, 20, 21, 24, 59, 60, 61, 99, 100, 200, 201, 300,
        301, 600, 601, 700, 701, 999, 1000, 9998, 9999, 10000, 65536, Integer.MAX_VALUE - 1, Integer.MAX_VALUE,
    };

    private final Random random;
    private final int run;
    private final BottleLine real = new BottleLine();
    private final Model model = new Model();
    private final List<String> told = new ArrayList<>();
    private int calls = 0;
    private boolean wrong = false;

    private ModelTest(int run) {
        this.run = run;
        this.random = new Random(run);
    }

    public static void main(String[] args) {
        int bad = 0;
        for (int run = 0; run < RUNS && bad < 5; run++) {
            bad += new ModelTest(run).differs() ? 1 : 0;
        }
        System.out.println("ModelTest: " + (bad == 0 ? "all runs are as the model's" : bad + " runs differ"));
        if (bad != 0) {
            System.exit(1);
        }
    }

    private boolean differs() {
        if (random.nextInt(8) > 0) {
            text(lineText(), "line");
        }
        while (calls < 500 && !wrong) {
            step(CALLS[random.nextInt(CALLS.length)]);
        }
        return wrong;
    }

    private void both(String what, long... a) {
        if (wrong || calls >= 512) {
            return;
        }
        calls++;
        told.add(what + Arrays.toString(a));
        long want = model.call(what, a);
        long got = Real.call(real, what, a);
        boolean same = got == want && real.status() == model.status && real.top() == model.top
            && real.bottom() == model.bottom && real.fault(0) == model.faultKind && real.fault(1) == model.faultPlace;
        if (!same) {
            wrong = true;
            System.out.println("run " + run + ", call " + calls + ": " + what + Arrays.toString(a) + " answered " + got
                + " with status " + real.status() + ", due is " + want + " with " + model.status
                + "; fault " + real.fault(0) + " at " + real.fault(1) + ", due " + model.faultKind + " at "
                + model.faultPlace + "; fraction " + real.top() + "/" + real.bottom() + ", due " + model.top + "/"
                + model.bottom);
            System.out.println("  " + told.subList(Math.max(0, told.size() - 12), told.size()));
        }
    }

    private int up(int most) {
        return random.nextInt(most + 1);
    }

    private int from(int least, int most) {
        return least + random.nextInt(most - least + 1);
    }

    private String pick(String[] list) {
        return list[random.nextInt(list.length)];
    }

    private int machineNumber() {
        return random.nextInt(12) == 0 ? from(-1, 6) : up(Math.max(0, model.now.machines.size() - 1));
    }

    private int minutesOf(int most) {
        return random.nextInt(4) == 0 ? up(most) : from(1, 30);
    }

    private void step(String what) {
        switch (what) {
            case "many" -> both(what, from(-1, 4));
            case "machine" -> both(what, machineNumber(), from(-1, 7));
            case "table" -> both(what, machineNumber() - up(1), from(-1, 2));
            case "wash", "blame" -> both(what, machineNumber(), machineNumber());
            case "begin" -> both(what, random.nextInt(9) == 0 ? from(-1, 10001) : up(9999));
            case "run" -> both(what, minutesOf(601));
            case "minutes" -> both(what, machineNumber(), from(-1, 4));
            case "share" -> both(what, machineNumber());
            case "tried" -> both(what, machineNumber(), from(0, 100), minutesOf(601));
            case "holder" -> both(what, from(0, 21), minutesOf(601));
            case "shared" -> sharedWay();
            case "unit" -> both(what, from(-1, 5));
            case "waits" -> both(what, machineNumber(), from(-1, 21), minutesOf(601));
            case "unwaited" -> both(what, machineNumber(), minutesOf(201));
            case "gained", "work", "mark", "back" -> both(what);
            case "worked" -> both(what, from(-1, 3));
            case "fault" -> both(what, from(-1, 2));
            case "order" -> both(what, random.nextInt(6) == 0 ? from(-1, 130) : (1 << model.now.sorts.size()) - 1 - (random.nextBoolean() ? 1 << up(6) : 0), from(-1, 7));
            case "ordered" -> both(what, from(-1, 7));
            case "recall" -> recallWay();
            case "shiftOf" -> both(what, from(-1, 8));
            case "head" -> both(what, from(-1, 5));
            case "read" -> both(what, from(-1, 4), from(-1, 60));
            case "write" -> both(what, from(-1, 4), from(-1, 12), random.nextLong() >> up(63));
            case "pour" -> both(what, from(-1, 4), from(-1, 6), from(-1, 4), from(-1, 6), from(-1, 8));
            case "tray" -> both(what, from(-1, 4), from(-1, 4), random.nextBoolean() ? from(-1, 61) : up(9));
            default -> longStep(what);
        }
    }

    private void longStep(String what) {
        switch (what) {
            case "line!" -> text(random.nextInt(3) == 0 ? spoiled(lineText()) : lineText(), "line");
            case "shift!" -> text(random.nextInt(3) == 0 ? spoiled(shiftText()) : shiftText(), "shift");
            case "line", "shift" -> both(what, random.nextBoolean() ? up(30) : ODD[random.nextInt(ODD.length)]);
            case "heads!" -> headsWay();
            case "brief!" -> briefWay();
            case "glass!" -> glassWay();
            case "closes!" -> closesWay();
            case "shifts!" -> shiftsWay();
            case "lot!" -> lotWay();
            case "torn!" -> tornWay();
            case "state!" -> stateWay();
            default -> oddWay();
        }
    }

    private void sharedWay() {
        boolean wide = model.now.machines.size() > 4;
        both("shared", from(random.nextInt(9) == 0 ? -1 : 0, wide ? 5 : 9), from(0, random.nextInt(5) == 0 ? 100 : 12),
            wide ? from(1, 20) : minutesOf(201));
    }

    private void recallWay() {
        int[] four = {up(9999), up(9999), up(9999), up(9999)};
        if (random.nextBoolean()) {
            int base = up(9900);
            for (int k = 0; k < 4; k++) {
                four[k] = base + up(110);
            }
        }
        if (random.nextInt(6) > 0) {
            Arrays.sort(four);
        }
        both("recall", from(random.nextInt(9) == 0 ? 0 : 1, 100), four[1], four[2], four[0], four[3], from(-1, 4));
    }

    private int laid(long[] row) {
        int tray = up(3);
        int sort = from(1, 3);
        both("tray", tray, sort, Math.min(60, row.length + up(2)));
        for (int k = 0; k < row.length; k++) {
            both("write", tray, k, row[k]);
        }
        return tray;
    }

    private int around(int many) {
        return random.nextInt(10) == 0 ? many + from(-1, 3) : many;
    }

    private void headsWay() {
        int bottles = random.nextInt(3) == 0 ? from(1, 200) : from(1, 30);
        boolean[] isWrong = new boolean[bottles];
        List<Model.Machine> machines = model.now.machines;
        for (int k = up(3); k > 0 && !machines.isEmpty(); k--) {
            int heads = machines.get(up(machines.size() - 1)).heads;
            int head = up(heads - 1);
            for (int b = head; b < bottles; b += heads) {
                isWrong[b] = true;
            }
        }
        if (random.nextInt(6) == 0) {
            isWrong[up(bottles - 1)] ^= true;
        }
        long[] row = new long[bottles];
        int many = 0;
        for (int b = 0; b < bottles; b++) {
            if (isWrong[b]) {
                row[many++] = b;
            }
        }
        row = Arrays.copyOf(row, Math.min(many, 60));
        if (row.length > 0 && random.nextInt(8) == 0) {
            row[up(row.length - 1)] = from(-1, bottles);
        }
        int tray = laid(row);
        both("heads", bottles, tray, around(row.length));
        for (int k = 0; k < 5; k++) {
            both("head", k);
        }
    }

    private void briefWay() {
        long[] row = new long[from(1, 12)];
        for (int k = 0; k < row.length; k++) {
            row[k] = random.nextInt(60) == 0 ? from(9990, 10010) : random.nextInt(60) == 0 ? from(-1010, -990) : up(9);
        }
        both("brief", laid(row), around(row.length), random.nextInt(9) == 0 ? up(100) : from(1, 9), up(6), up(9));
    }

    private void glassWay() {
        long[] row = new long[2 * from(1, 6)];
        int base = random.nextBoolean() ? 0 : up(9950);
        for (int k = 0; k < row.length; k += 2) {
            row[k] = random.nextInt(12) == 0 ? machineNumber() : up(Math.max(0, model.now.machines.size() - 1));
            row[k + 1] = base + up(random.nextInt(15) == 0 ? 60 : 40) - (random.nextInt(40) == 0 ? 50 : 0);
        }
        both("glass", laid(row), around(row.length / 2));
    }

    private void closesWay() {
        int tables = Math.max(0, model.now.machines.size() - 1);
        long[] row = new long[4 * tables];
        for (int k = 0; k < tables; k++) {
            for (int j = 1; j < 4; j++) {
                row[4 * k + j] = random.nextInt(30) == 0 ? from(-1, 0) : up(300);
                row[4 * k] += row[4 * k + j];
            }
            row[4 * k] += random.nextInt(8) == 0 ? from(-1, 1) : 0;
        }
        both("closes", laid(row));
        both("closes", from(-1, 4));
    }

    private void shiftsWay() {
        int length = from(10, 60);
        long[] row = new long[from(1, 8)];
        for (int k = 0; k < row.length; k++) {
            row[k] = random.nextInt(40) == 0 ? from(-1, 1) + up(1) * (long) length : from(1, Math.max(1, length * 2 / 3));
        }
        both("shifts", laid(row), around(row.length), length);
        for (int k = -1; k < 9; k++) {
            both("shiftOf", k);
        }
    }

    private void lotWay() {
        long[] row = new long[from(1, 8)];
        long at = random.nextInt(20) == 0 ? -1 : up(30);
        for (int k = 0; k < row.length; k++) {
            row[k] = at;
            at += random.nextInt(25) == 0 ? 0 : from(1, random.nextInt(20) == 0 ? 9990 : 30);
        }
        both("lot", laid(row), around(row.length), random.nextBoolean() ? up(60) : from(-1, 300));
    }

    private void tornWay() {
        long[] row = new long[from(1, 9)];
        int sum = 0;
        for (int k = 0; k < row.length; k++) {
            row[k] = random.nextInt(3) == 0 ? -1 : random.nextInt(40) == 0 ? from(-2, 100) : up(99);
            sum += Math.max(0, (int) row[k]);
        }
        both("torn", laid(row), around(row.length), random.nextInt(9) == 0 ? from(-1, 10000) : Math.max(0, sum + from(-5, 200)));
    }

    private void stateWay() {
        for (int m = 0; m < model.now.machines.size(); m++) {
            for (int k = 0; k < 7; k++) {
                both("machine", m, k);
            }
            both("table", m, 1);
            both("minutes", m, up(3));
            both("blame", m, up(5));
        }
        both("many", 2);
        both("many", 3);
    }

    private void oddWay() {
        String what = List.of("tray", "write", "read", "pour", "line", "shift", "fault", "many", "machine", "table",
            "wash", "begin", "run", "minutes", "blame", "share", "tried", "holder", "shared", "unit", "waits",
            "unwaited", "worked", "heads", "head", "brief", "glass", "order", "ordered", "closes", "recall", "shifts",
            "shiftOf", "lot", "torn").get(up(34));
        long[] a = new long[6];
        for (int k = 0; k < 6; k++) {
            a[k] = random.nextInt(3) == 0 ? random.nextInt() : ODD[random.nextInt(ODD.length)];
        }
        // The model is slow with many units and long minutes.
        if (what.equals("shared") && a[0] > 4) {
            a[2] = Math.min(a[2], 40);
        }
        both(what, a);
    }

    private void text(String text, String call) {
        if (calls > 440) {
            return;
        }
        // What earlier calls left on the tape is read away first.
        if (!model.tape.isEmpty()) {
            both("line", model.tape.length());
        }
        for (long[] feed : Real.feeds(text)) {
            both("feed", feed);
        }
        both(call, text.length());
    }

    private String gap() {
        return random.nextInt(12) == 0 ? "\n" : random.nextInt(20) == 0 ? "  " : " ";
    }

    private String lineText() {
        StringBuilder b = new StringBuilder();
        boolean busy = random.nextInt(3) == 0;
        int machines = random.nextInt(30) == 0 ? 7 : up(6);
        int sorts = random.nextInt(30) == 0 ? 8 : up(7);
        for (int m = 0; m < machines; m++) {
            b.append("machine").append(gap()).append((char) ('a' + m)).append(random.nextInt(9) == 0 ? "xyz" : "");
            b.append(" speed").append(gap()).append(busy ? from(1, 99) : from(1, 12));
            if (random.nextInt(2) == 0) {
                b.append(gap()).append("heads ").append(random.nextBoolean() ? from(1, 6) : from(1, 24));
            }
            if (random.nextInt(2) == 0) {
                b.append(" stops ").append(random.nextInt(5) == 0 ? from(30, 64) : up(12)).append(" lasts ").append(from(1, random.nextInt(9) == 0 ? 99 : 5));
            }
            b.append(random.nextBoolean() ? ";" : " ;\n");
            if (random.nextInt(3) > 0) {
                b.append("table ").append(busy ? up(300) : up(30)).append(";");
            }
        }
        for (int s = 0; s < sorts; s++) {
            b.append("sort ").append((char) ('p' + s)).append(';');
        }
        for (int k = up(9); k > 0 && sorts > 1; k--) {
            int from = up(sorts - 1);
            int to = (from + from(1, sorts - 1)) % sorts;
            String part = "wash " + (char) ('p' + from) + " " + (char) ('p' + to) + " ";
            if (b.indexOf(part) < 0 || random.nextInt(20) == 0) {
                b.append(part).append(random.nextInt(5) == 0 ? up(999) : up(15)).append(';');
            }
        }
        return b.length() <= 700 ? b.toString() : b.substring(0, 700);
    }

    private String shiftText() {
        StringBuilder b = new StringBuilder();
        addSteps(b, 0, from(0, 6));
        return b.length() <= 300 ? b.toString() : "loop 9;loop 9;run " + from(1, 60) + ";speed a " + from(1, 99) + ";end;end;";
    }

    private String nameHere() {
        List<Model.Machine> machines = model.now.machines;
        return machines.isEmpty() || random.nextInt(6) == 0 ? "nobody" : machines.get(up(machines.size() - 1)).name;
    }

    private void addSteps(StringBuilder b, int depth, int many) {
        for (int k = 0; k < many; k++) {
            int kind = random.nextInt(depth > 2 && random.nextInt(40) > 0 ? 4 : 6);
            switch (kind) {
                case 0 -> b.append("run ").append(random.nextInt(5) == 0 ? from(1, 60) : from(1, 6)).append(";");
                case 1 -> b.append("speed ").append(nameHere()).append(' ').append(from(1, 20)).append(";");
                case 2 -> b.append("halt ").append(nameHere()).append(' ').append(up(random.nextInt(4) == 0 ? 99 : 4)).append("; ");
                case 3 -> b.append("mend ").append(nameHere()).append(";");
                case 4 -> b.append("loop ").append(from(1, 9)).append(";");
                default -> b.append("when ").append(nameHere()).append(' ').append(Model.STATES.get(up(3))).append(";");
            }
            if (kind > 3) {
                addSteps(b, depth + 1, up(3));
                b.append("end;");
            }
        }
    }

    private String spoiled(String text) {
        StringBuilder b = new StringBuilder(text);
        for (int k = from(1, 2); k > 0; k--) {
            int at = up(b.length());
            String more = random.nextInt(4) == 0 ? pick(NAMES) : pick(WORDS);
            switch (random.nextInt(4)) {
                case 0 -> b.insert(at, " " + more + " ");
                case 1 -> b.insert(at, more);
                case 2 -> b.delete(at, Math.min(b.length(), at + from(1, 6)));
                default -> b.replace(at, Math.min(b.length(), at + from(1, 6)), more);
            }
        }
        return b.length() <= 300 ? b.toString() : b.substring(0, 300);
    }
}
