import java.io.IOException;
import java.nio.file.Files;
import java.nio.file.Path;
import java.util.ArrayList;
import java.util.Arrays;
import java.util.List;
import java.util.regex.Matcher;
import java.util.regex.Pattern;

/** What README.md shows, done line by line: each answer that stands behind a call is the one that comes. */
public final class ReadmeTest {
    private static final Path README = Path.of("README.md");
    private static final Pattern LAY = Pattern.compile("lay\\(x, \"([^\"]*)\"\\);");
    private static final Pattern CALL = Pattern.compile("x\\.(\\w+)\\(([^)]*)\\);(?:\\s*// (-?\\d+|NONE|true|false)\\b.*)?");

    private ReadmeTest() {
    }

    public static void main(String[] args) throws IOException {
        BottleLine x = new BottleLine();
        List<String> wrong = new ArrayList<>();
        int calls = 0;
        for (String line : Files.readAllLines(README)) {
            Matcher lay = LAY.matcher(line);
            Matcher call = CALL.matcher(line);
            if (lay.matches()) {
                lay(x, lay.group(1));
            } else if (call.matches()) {
                calls++;
                tell(x, call, wrong);
            }
        }
        if (calls < 30) {
            wrong.add("README.md shows " + calls + " calls");
        }
        wrong.forEach(System.out::println);
        System.out.println("ReadmeTest: " + (wrong.isEmpty() ? "all answers are as told" : "answers are not as told"));
        if (!wrong.isEmpty()) {
            System.exit(1);
        }
    }

    /** As README.md has it, so that the helper is tried, too. */
    static void lay(BottleLine x, String text) {
        for (int k = 0; k < text.length(); k += 20) {
            int[] five = new int[5];
            for (int j = k; j < text.length() && j < k + 20; j++) {
                five[(j - k) / 4] |= text.charAt(j) << 24 - j % 4 * 8;
            }
            x.feed(five[0], five[1], five[2], five[3], five[4]);
        }
    }

    private static void tell(BottleLine x, Matcher call, List<String> wrong) {
        long[] numbers = call.group(2).isEmpty() ? new long[0]
            : Arrays.stream(call.group(2).split(", ")).mapToLong(Long::parseLong).toArray();
        long got = Real.call(x, call.group(1), numbers);
        String told = call.group(3);
        if (told == null) {
            wrong.add(call.group() + " has no answer");
            return;
        }
        long want = switch (told) {
            case "NONE" -> BottleLine.NONE;
            case "true" -> 1;
            case "false" -> 0;
            default -> Long.parseLong(told);
        };
        if (got != want) {
            wrong.add(call.group() + " answered " + got);
        }
    }
}
