import java.io.IOException;
import java.nio.file.Files;
import java.nio.file.Path;
import java.util.regex.Matcher;
import java.util.regex.Pattern;

/** The rules of LANGUAGE.md that can be seen from the program's words alone. */
public final class LanguageTest {
    private static final String[] FORBIDDEN = {
        "\\bthrow\\b", "\\bthrows\\b", "\\btry\\b", "\\bcatch\\b", "\\bsynchronized\\b", "\\bassert\\b", "\\bimport\\b",
        "\\bpackage\\b", "\\bprotected\\b", "->", "::", "static\\s*\\{", "\\bvar\\b", "\\bException\\b", "\\bObject\\b",
        "\\bequals\\b", "\\bhashCode\\b", "\\btoString\\b", "\\w+Exact\\b", "\\bstatic (?!final|int\\b|boolean\\b)"};
    private static final int METHOD_LINES = 60;
    private static final int CLASSES = 12;

    public static void main(String[] args) throws IOException {
        String program = Files.readString(Path.of("src/main/java/ClawCranes.java"));
        Check.holds("signs are 1 to 126", program.chars().allMatch(sign -> sign > 0 && sign < 127));
        String code = program.replaceAll("(?s)/\\*.*?\\*/", "").replaceAll("//.*", "");
        for (String word : FORBIDDEN) {
            Matcher matcher = Pattern.compile(word).matcher(code);
            Check.holds("without " + word, !matcher.find());
        }
        Check.holds("few classes", Pattern.compile("\\bclass \\w+").matcher(code).results().count() <= CLASSES);
        methodLengths(program.split("\n"));
        Check.end();
    }

    /** A method begins with a line that ends with ") {" at one of two depths, and ends at the same depth. */
    private static void methodLengths(String[] lines) {
        for (int start = 0; start < lines.length; start++) {
            if (lines[start].matches("( {4}| {8})(public|private) .*\\) \\{")) {
                String end = lines[start].replaceAll("\\S.*", "") + "}";
                int last = start;
                while (last < lines.length && !lines[last].equals(end)) {
                    last++;
                }
                Check.holds("a short method: " + lines[start], last - start < METHOD_LINES);
            }
        }
    }
}
