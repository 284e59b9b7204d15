import java.io.IOException;
import java.lang.management.ManagementFactory;
import java.lang.reflect.Constructor;
import java.lang.reflect.Field;
import java.lang.reflect.Method;
import java.lang.reflect.Modifier;
import java.nio.file.Files;
import java.nio.file.Path;
import java.util.ArrayList;
import java.util.Arrays;
import java.util.List;
import java.util.Set;
import java.util.TreeSet;
import java.util.regex.Matcher;
import java.util.regex.Pattern;
import java.util.stream.Collectors;

/** What LANGUAGE.md binds: the face, the words that must not stand in the file, sizes, and what a run makes. */
public final class RulesTest {
    private static final Path DOCUMENT = Path.of("../shared/DOC.md");
    private static final Path SOURCE = Path.of("src/main/java/BottleLine.java");
    private static final String LINE = "machine a speed 9 heads 24 stops 5 lasts 3;machine b speed 8 heads 7;"
        + "machine c speed 7 stops 9 lasts 9;machine d speed 9;machine e speed 3;machine f speed 9;"
        + "sort a;sort b;sort c;sort d;sort e;sort f;sort g;";
    private static int wrong = 0;

    private RulesTest() {
    }

    public static void main(String[] args) throws IOException {
        String source = Files.readString(SOURCE);
        String code = source.replaceAll("(?s)/\\*.*?\\*/", "").replaceAll("//[^\n]*", "")
            .replaceAll("\"[^\"\n]*\"", "\"\"").replaceAll("'[^'\n]{1,2}'", "' '");
        List<Class<?>> classes = new ArrayList<>(List.of(BottleLine.class));
        classes.addAll(List.of(BottleLine.class.getDeclaredClasses()));
        face();
        nestedClasses(classes);
        members(classes);
        words(code);
        methodLengths(code);
        whatARunMakes();
        System.out.println("RulesTest: " + (wrong == 0 ? "all rules are kept" : wrong + " rules are broken"));
        if (wrong != 0) {
            System.exit(1);
        }
    }

    private static void must(boolean holds, String what) {
        if (!holds) {
            wrong++;
            System.out.println(what);
        }
    }

    private static String parameters(Class<?>[] types) {
        return Arrays.stream(types).map(Class::getSimpleName).collect(Collectors.joining(",", "(", ")"));
    }

    private static void face() throws IOException {
        Set<String> due = new TreeSet<>();
        Matcher m = Pattern.compile("    public (static final int NONE = -1|[\\w ]+\\([^)]*\\));")
            .matcher(Files.readString(DOCUMENT));
        while (m.find()) {
            due.add(m.group(1).replaceAll("(int|long) \\w+(?=[,)])", "$1").replace(", ", ","));
        }
        Set<String> there = new TreeSet<>();
        for (Constructor<?> c : BottleLine.class.getDeclaredConstructors()) {
            there.add("BottleLine" + parameters(c.getParameterTypes()));
        }
        for (Method f : BottleLine.class.getDeclaredMethods()) {
            if (!Modifier.isPrivate(f.getModifiers())) {
                there.add(f.getReturnType() + " " + f.getName() + parameters(f.getParameterTypes()));
                must(f.getModifiers() == Modifier.PUBLIC, "rule 1: " + f);
            }
        }
        for (Field f : BottleLine.class.getDeclaredFields()) {
            if (!Modifier.isPrivate(f.getModifiers())) {
                there.add(Modifier.toString(f.getModifiers()).replace("public ", "") + " int " + f.getName() + " = "
                    + BottleLine.NONE);
            }
        }
        must(due.size() == 45, "the document's face has " + due.size() + " members");
        must(due.equals(there), "rule 1: the face is " + there + ", due is " + due);
        must(Modifier.isFinal(BottleLine.class.getModifiers()), "rule 1: the class is not final");
    }

    private static void nestedClasses(List<Class<?>> classes) {
        must(classes.size() <= 12, "rule 11: " + classes.size() + " classes");
        for (Class<?> c : classes) {
            must(c == BottleLine.class || Modifier.isStatic(c.getModifiers()), "rule 2: not static: " + c);
            must(c == BottleLine.class || !Modifier.isPublic(c.getModifiers()), "rule 1: public: " + c);
        }
    }

    private static void members(List<Class<?>> classes) {
        Set<String> open = Arrays.stream(BottleLine.class.getMethods())
            .filter(f -> f.getDeclaringClass() == BottleLine.class).map(Method::getName).collect(Collectors.toSet());
        for (Class<?> c : classes) {
            int fields = 0;
            for (Field f : c.getDeclaredFields()) {
                boolean fixed = Modifier.isStatic(f.getModifiers());
                fields += fixed ? 0 : 1;
                must(!fixed || Modifier.isFinal(f.getModifiers()), "rule 5: " + f);
            }
            must(fields <= 20, "rule 11: " + fields + " fields in " + c);
            for (Method f : c.getDeclaredMethods()) {
                must(f.getParameterCount() <= 7, "rule 11: parameters of " + f);
                must(!f.isSynthetic(), "rule 2: made by the compiler: " + f);
                must(Modifier.isPublic(f.getModifiers()) || !open.contains(f.getName()), "rule 1: the name of " + f);
            }
        }
    }

    private static void words(String code) {
        Matcher m = Pattern.compile("\\b(throw|throws|try|catch|finally|synchronized|assert|static \\{|package|var|"
            + "volatile|transient|native|protected|double|float|Exact|instanceof)\\b|->|::|@").matcher(code);
        while (m.find()) {
            must(false, "a word that must not stand there: " + m.group());
        }
        Matcher imports = Pattern.compile("import ([^;]+);").matcher(code);
        while (imports.find()) {
            must(imports.group(1).equals("java.util.Arrays"), "rule 4: import " + imports.group(1));
        }
        must(code.chars().allMatch(c -> c < 128), "a sign above 127");
    }

    private static void methodLengths(String code) {
        int from = 0;
        List<String> lines = code.lines().toList();
        for (int k = 0; k < lines.size(); k++) {
            if (lines.get(k).matches("( {4}| {8})[\\w\\[\\] ]+\\(.*\\) \\{")) {
                from = k;
            }
            if (lines.get(k).matches(" {4}\\}| {8}\\}")) {
                must(k - from <= 60, "rule 11: a method of " + (k - from) + " lines at line " + k);
                from = k;
            }
        }
    }

    /** All rows are made in the constructor: calls make nothing, however dear they are. */
    private static void whatARunMakes() {
        com.sun.management.ThreadMXBean bean =
            (com.sun.management.ThreadMXBean) ManagementFactory.getThreadMXBean();
        long[][] feeds = Real.feeds(LINE);
        oneRun(new BottleLine(), feeds);
        long before = bean.getCurrentThreadAllocatedBytes();
        BottleLine x = new BottleLine();
        long made = bean.getCurrentThreadAllocatedBytes();
        oneRun(x, feeds);
        long after = bean.getCurrentThreadAllocatedBytes();
        must(made - before < 30_000, "a new object takes " + (made - before) + " bytes");
        must(after - made < 2_000, "calls make " + (after - made) + " bytes");
    }

    private static void oneRun(BottleLine x, long[][] feeds) {
        int fed = 0;
        for (long[] f : feeds) {
            fed = x.feed((int) f[0], (int) f[1], (int) f[2], (int) f[3], (int) f[4]);
        }
        must(x.line(LINE.length()) == 6 && fed >= LINE.length(), "the line is not taken");
        x.tray(0, 2, 8);
        for (int k = 0; k < 8; k++) {
            x.write(0, k, 10 * k + 10);
        }
        for (int k = 0; k < 20; k++) {
            x.mark();
            x.run(600);
            x.shared(3, 20, 50);
            x.holder(3, 50);
            x.unwaited(0, 50);
            x.order(127, 0);
            x.heads(100, 0, 8);
            x.shifts(0, 8, 99);
            x.glass(0, 1);
            x.brief(0, 8, 9, 20, 60);
            x.work();
            x.shift(0);
            x.back();
        }
    }
}
