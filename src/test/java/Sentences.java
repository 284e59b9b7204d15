import java.io.IOException;
import java.nio.file.Files;
import java.nio.file.Path;
import java.util.ArrayList;
import java.util.BitSet;
import java.util.LinkedHashMap;
import java.util.List;
import java.util.Map;
import java.util.regex.Matcher;
import java.util.regex.Pattern;

/** The document's sections, and whether each place of them that names a boundary case is quoted by a test. */
final class Sentences {
    private static final Path DOCUMENT = Path.of("../shared/DOC.md");
    /** Numbers, and the words with which the document names the edges of something. */
    private static final Pattern EDGE = Pattern.compile("[0-9][0-9,]*[0-9]|[0-9]|\\b(at most|at first|already|without"
        + "|below|above|more than|fewer than|no more|no longer|fewest|too|too few|too many|empty|always|none|nothing"
        + "|others|ahead of any|latest|seventh|eighth|rising|least|first|MISSING)\\b");

    private static final Map<String, List<String>> QUOTES = new LinkedHashMap<>();

    private Sentences() {
    }

    static void quoted(String section, String words) {
        QUOTES.computeIfAbsent(section, s -> new ArrayList<>()).add(words);
    }

    /** What is amiss: quotes that the document has not, and edges in it that no quote holds. */
    static List<String> amiss() throws IOException {
        List<String> all = new ArrayList<>();
        Map<String, String> sections = sections(Files.readString(DOCUMENT));
        for (String section : QUOTES.keySet()) {
            if (!sections.containsKey(section)) {
                all.add("the document has no section " + section);
            }
        }
        sections.forEach((section, text) -> lookInto(section, text, all));
        return all;
    }

    private static void lookInto(String section, String text, List<String> all) {
        BitSet covered = new BitSet();
        for (String words : QUOTES.getOrDefault(section, List.of())) {
            int at = text.indexOf(words);
            if (at < 0) {
                all.add(section + " has no words \"" + words + "\"");
            } else {
                covered.set(at, at + words.length());
            }
        }
        Matcher edge = EDGE.matcher(text);
        while (edge.find()) {
            if (covered.nextClearBit(edge.start()) < edge.end()) {
                all.add(section + ": no test quotes \".." + text.substring(Math.max(0, edge.start() - 40), edge.start())
                    + "[" + edge.group() + "]" + text.substring(edge.end(), Math.min(text.length(), edge.end() + 20)) + "..\"");
            }
        }
    }

    /** By name: the 512 calls, the constants, ==== 1. to ==== 5., Promise 1 to Promise 44; blanks and lines made one blank. */
    private static Map<String, String> sections(String document) {
        Map<String, String> all = new LinkedHashMap<>();
        String terms = between(document, "## Terms\n", "The constants:");
        all.put("What it is", between(document, "==== 1.\n", "## The public face"));
        all.put("The constants", between(document, "The constants:", "Ahead of the calls"));
        String[] parts = terms.split("==== [2-5]\\.");
        for (int k = 0; k < parts.length; k++) {
            all.put("==== " + (k + 1) + ".", plain(parts[k].replace("```text", " ").replace("```", " ")));
        }
        Matcher promise = Pattern.compile("(?s)## (Promise \\d+): [^\n]*\n(.*?)(?=\n## )").matcher(document);
        while (promise.find()) {
            // The signature that each one starts with is no sentence.
            all.put(promise.group(1), plain(promise.group(2).replaceFirst("(?s)^\\s*`[^`]*`:", " ")));
        }
        return all;
    }

    private static String between(String text, String from, String to) {
        int start = text.indexOf(from) + from.length();
        return text.substring(start, text.indexOf(to, start));
    }

    private static String plain(String text) {
        return text.replaceAll("\\s+", " ").trim();
    }
}
