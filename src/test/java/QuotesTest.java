import java.io.IOException;
import java.nio.file.Files;
import java.nio.file.Path;
import java.util.ArrayList;
import java.util.List;
import java.util.Map;
import java.util.TreeMap;
import java.util.regex.Matcher;
import java.util.regex.Pattern;
import java.util.stream.Stream;

/** Each sentence that a test is by stands in the document, and each one of the document has a test that is by it. */
public final class QuotesTest {
    private static final Path DOCUMENT = Path.of("../shared/DOC.md");
    private static final Path TESTS = Path.of("src/test/java");
    private static final String TEXT = "\"(?:[^\"\\\\]|\\\\.)*\"(?:\\s*\\+\\s*\"(?:[^\"\\\\]|\\\\.)*\")*";
    private static final Pattern TEXT_OR_NAME = Pattern.compile(TEXT + "|[A-Z_]{2,}");
    private static final Pattern SENTENCE = Pattern.compile("(?s)Check\\.sentence\\(\"([^\"]*)\",(.*?)\\);");
    private static final Pattern CONSTANT = Pattern.compile("String ([A-Z_]+) =\\s*(" + TEXT + ");");

    /** Beginnings of what only names what comes next, of what cannot be asked about, and of what FaceTest tests. */
    private static final String[] WITHOUT_TEST = {
        "CONVENTIONS", "The pit, prizes", "Ahead of the calls", "Returns something", "Returns a number",
        "Divisions are rounded down", "The constants", "`COIN = 0, "};

    public static void main(String[] args) throws IOException {
        if (!Files.isReadable(DOCUMENT)) {
            System.out.println("the document is not here: nothing to compare with");
            return;
        }
        Map<String, String> parts = parts(Files.readString(DOCUMENT));
        Map<String, List<String>> quotes = quotes();
        Check.holds("24 promises and the terms have tests", quotes.size() == 25);
        for (Map.Entry<String, List<String>> entry : quotes.entrySet()) {
            String part = parts.getOrDefault(entry.getKey(), "");
            for (String quote : entry.getValue()) {
                Check.holds("stands in " + entry.getKey() + ": " + quote, folded(part).contains(quote));
            }
        }
        for (Map.Entry<String, String> entry : parts.entrySet()) {
            for (String clause : clauses(entry.getValue())) {
                Check.holds("has a test, in " + entry.getKey() + ": " + clause,
                        isQuoted(clause, quotes.getOrDefault(entry.getKey(), List.of())));
            }
        }
        Check.end();
    }

    private static String folded(String text) {
        return text.replaceAll("\\s+", " ").trim();
    }

    /** The terms and the promises by their names, each without its heading. */
    private static Map<String, String> parts(String document) {
        Map<String, String> parts = new TreeMap<>();
        Matcher matcher = Pattern.compile("(?ms)^## (Terms|Promise \\d+)[^\\n]*\\n(.*?)(?=^## )").matcher(document);
        while (matcher.find()) {
            parts.put(matcher.group(1), matcher.group(2).replaceAll("(?m)^###.*$", ""));
        }
        return parts;
    }

    private static List<String> clauses(String part) {
        List<String> clauses = new ArrayList<>();
        String prose = part.replaceAll("(?s)```.*?```", "").replaceAll("(?m)^(- |\\d\\. )", "");
        for (String line : prose.split("\n")) {
            String said = line.replaceAll("^`[^`]*\\)`: ", "");
            for (String clause : said.split("(?<!\\(\\d{1,2} to \\d{1,3}); |\\. |\\.$|:$")) {
                if (!clause.isBlank()) {
                    clauses.add(folded(clause));
                }
            }
        }
        return clauses;
    }

    private static boolean isQuoted(String clause, List<String> quotes) {
        return Stream.of(WITHOUT_TEST).anyMatch(clause::startsWith)
                || quotes.stream().anyMatch(quote -> quote.contains(clause) || clause.contains(quote));
    }

    private static Map<String, List<String>> quotes() throws IOException {
        Map<String, List<String>> quotes = new TreeMap<>();
        try (Stream<Path> files = Files.list(TESTS)) {
            for (Path file : files.filter(path -> path.toString().endsWith("Test.java")).toList()) {
                quotesOf(Files.readString(file), quotes);
            }
        }
        return quotes;
    }

    private static void quotesOf(String source, Map<String, List<String>> quotes) {
        Map<String, String> constants = new TreeMap<>();
        for (Matcher matcher = CONSTANT.matcher(source); matcher.find();) {
            constants.put(matcher.group(1), matcher.group(2));
        }
        for (Matcher matcher = SENTENCE.matcher(source); matcher.find();) {
            List<String> ofPart = quotes.computeIfAbsent(matcher.group(1), part -> new ArrayList<>());
            TEXT_OR_NAME.matcher(matcher.group(2)).results()
                    .forEach(words -> ofPart.add(unquoted(constants.getOrDefault(words.group(), words.group()))));
        }
    }

    private static String unquoted(String text) {
        String joined = text.replaceAll("(?s)\"\\s*\\+\\s*\"", "");
        return folded(joined.substring(1, joined.length() - 1).replace("\\\"", "\""));
    }
}
