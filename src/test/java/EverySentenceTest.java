import java.io.IOException;
import java.nio.file.Files;
import java.nio.file.Path;
import java.util.ArrayList;
import java.util.Arrays;
import java.util.List;
import java.util.Map;
import java.util.TreeMap;
import java.util.regex.Matcher;
import java.util.regex.Pattern;

/** Whether the sentences that the tests name stand in the document, and which words of the document no test names. */
public final class EverySentenceTest {
    private static final Path DOCUMENT = Path.of("../shared/DOC.md"), TESTS = Path.of("src/test/java");
    private static final String TERMS = "Terms", QUOTED = "\"((?:[^\"\\\\]|\\\\.)*)\"";
    /** Words that name no boundary: headings, faces of calls, what a call is about. */
    private static final List<String> WITHOUT_BOUNDARY = List.of("CONVENTIONS.", "### Settings", "### Shows", "Lamps, groups", "### A run",
        "### Texts", "```text", "```", "The constants:", "Ahead of the calls `set`, `tell`, `group`, `lamp`, `lens`, `run`"
        + " the interface says: ---- changes. Ahead of the calls `ofShow`, `lit`, `at`, `ofLamp`, `ofGroup`, `count` the interface says:"
        + " ---- what there is. Ahead of the calls `why`, `next`, `oftenOf`, `endsFirst`, `runsLeft` the interface says:",
        "Ahead of the calls `put`, `wipe`, `fault` the interface says:", "Ahead of the calls `undo`, `save`, `restore` the interface says:"
        + " ---- undo, saving.", "Returns something about a show. - `what`:", "Returns something about a lamp.",
        "Returns something about a group.", "Returns a number. - `what`:", "Tells why a show cannot run now.", "Tells which run would be next.",
        "Returns the number;", "Returns the set;", "Returns the lamp.");

    public static void main(String[] args) throws IOException {
        if (!Files.exists(DOCUMENT)) {
            System.out.println("EverySentenceTest: the document is not here");
            return;
        }
        Map<String, String> sections = sections();
        Map<String, boolean[]> named = new TreeMap<>();
        sections.forEach((section, words) -> named.put(section, new boolean[words.length()]));
        for (String quote : quotes()) {
            name(quote, sections, named);
        }
        named.forEach((section, isNamed) -> unnamed(section, sections.get(section), isNamed));
        Due.end("EverySentenceTest");
    }

    private static String inOneLine(String text) {
        return text.replaceAll("\\s+", " ").trim();
    }

    /** The words of 'Terms' and of each promise, each in one line. */
    private static Map<String, String> sections() throws IOException {
        Map<String, String> sections = new TreeMap<>();
        for (String section : Files.readString(DOCUMENT).split("(?m)^## ")) {
            int end = section.indexOf('\n');
            String heading = section.substring(0, Math.max(0, end)).replaceAll("^(Promise \\d+):.*", "$1");
            if (heading.equals(TERMS) || heading.startsWith("Promise ") || heading.equals("What it is")) {
                sections.put(heading, inOneLine(section.substring(end)));
            }
        }
        Due.is("sections of the document", sections.size(), 26);
        return sections;
    }

    /** What the tests name by Due.sentence, where words may be joined by +. */
    private static List<String> quotes() throws IOException {
        List<String> quotes = new ArrayList<>();
        List<Path> files = new ArrayList<>();
        try (var list = Files.list(TESTS)) {
            list.filter(file -> file.getFileName().toString().endsWith("SentencesTest.java")).sorted().forEach(files::add);
        }
        files.add(TESTS.resolve("RefusedCallsTest.java"));
        for (Path file : files) {
            Matcher calls = Pattern.compile("Due\\.sentence\\((" + QUOTED + "(?:\\s*\\+\\s*" + QUOTED + ")*)\\)").matcher(Files.readString(file));
            while (calls.find()) {
                StringBuilder words = new StringBuilder();
                Matcher parts = Pattern.compile(QUOTED).matcher(calls.group(1));
                while (parts.find()) {
                    words.append(parts.group(1).replace("\\\"", "\""));
                }
                quotes.add(words.toString());
            }
        }
        return quotes;
    }

    private static void name(String quote, Map<String, String> sections, Map<String, boolean[]> named) {
        int colon = quote.indexOf(": ");
        String section = quote.substring(0, Math.max(0, colon));
        String where = sections.containsKey(section) ? section : TERMS;
        String words = inOneLine(quote.substring(colon + 2));
        int at = sections.get(where).indexOf(words);
        Due.is("'" + quote + "' stands in the document", at >= 0 ? 1 : 0, 1);
        if (at >= 0) {
            Arrays.fill(named.get(where), at, at + words.length(), true);
        }
    }

    /** Looks at the words of a section that no test names; 'What it is' tells of one bound alone. */
    private static void unnamed(String section, String words, boolean[] isNamed) {
        if (section.equals("What it is")) {
            return;
        }
        int from = 0;
        while (from < words.length()) {
            int to = from;
            while (to < words.length() && isNamed[to] == isNamed[from]) {
                to++;
            }
            String rest = words.substring(from, to).trim().replaceAll("^`int [^`]*`: ?", "");
            boolean fine = isNamed[from] || rest.isEmpty() || WITHOUT_BOUNDARY.contains(rest);
            Due.is(section + ": a test names '" + rest + "'", fine ? 1 : 0, 1);
            from = to;
        }
    }
}
