import java.io.IOException;
import java.lang.reflect.Method;
import java.nio.file.Files;
import java.nio.file.Path;
import java.util.Set;
import java.util.TreeSet;
import java.util.regex.Matcher;
import java.util.regex.Pattern;

/** What README.md says of calls and answers, tried line by line, on the crane that the lines before left behind. */
public final class ReadmeTest {
    private static final Pattern BLOCK = Pattern.compile("(?s)```java\\n(.*?)```");
    private static final Pattern LINE = Pattern.compile("crane\\.(\\w+)\\(([^)]*)\\); *// (-?\\d+|[A-Z_]+)(: .*)?");
    private static final Pattern CODE = Pattern.compile("(?m)^\\| `([A-Z_]+)` \\| (-\\d) \\|");
    private static final Pattern SETTING =
            Pattern.compile("(?m)^\\| `([A-Z]+)` \\| (\\d+) to (\\d+) \\| (\\d+) \\|");
    private static final String NEW = "ClawCranes crane = new ClawCranes();";
    private static final String[] CODES = {"NO_SUCH", "BAD_VALUE", "BAD_TEXT", "TOO_MANY", "NOT_POSSIBLE", "NONE"};

    private static final Set<String> tried = new TreeSet<>();
    private static final Set<String> answered = new TreeSet<>();
    private static ClawCranes crane = null;

    public static void main(String[] args) throws IOException, ReflectiveOperationException {
        String readme = Files.readString(Path.of("README.md"));
        for (Matcher block = BLOCK.matcher(readme); block.find();) {
            for (String line : block.group(1).split("\n")) {
                if (!line.isBlank()) {
                    tryLine(line);
                }
            }
        }
        everyCallIsShown();
        codes(readme);
        settings(readme);
        Check.end();
    }

    private static void everyCallIsShown() {
        for (Method method : ClawCranes.class.getMethods()) {
            if (method.getDeclaringClass() == ClawCranes.class) {
                Check.holds("README.md shows " + method.getName(), tried.contains(method.getName()));
            }
        }
        for (String code : CODES) {
            Check.holds("README.md shows when the answer is " + code, answered.contains(code));
        }
    }

    private static void codes(String readme) throws ReflectiveOperationException {
        int codes = 0;
        for (Matcher row = CODE.matcher(readme); row.find(); codes++) {
            Check.due("README.md: " + row.group(1), number(row.group(1)), number(row.group(2)));
        }
        Check.due("the codes of README.md", codes, CODES.length);
    }

    private static void settings(String readme) throws ReflectiveOperationException {
        int settings = 0;
        for (Matcher row = SETTING.matcher(readme); row.find(); settings++) {
            int setting = (int) number(row.group(1));
            int least = (int) number(row.group(2));
            int most = (int) number(row.group(3));
            ClawCranes x = new ClawCranes();
            Check.due("README.md: below " + row.group(), x.set(setting, least - 1), ClawCranes.BAD_VALUE);
            Check.due("README.md: first value, " + row.group(), x.set(setting, least), number(row.group(4)));
            Check.due("README.md: least, " + row.group(), x.set(setting, most), least);
            Check.due("README.md: most, " + row.group(), x.set(setting, least), most);
            Check.due("README.md: above " + row.group(), x.set(setting, most + 1), ClawCranes.BAD_VALUE);
        }
        Check.due("the settings of README.md", settings, 6);
    }

    private static void tryLine(String line) throws ReflectiveOperationException {
        if (line.equals(NEW)) {
            crane = new ClawCranes();
            return;
        }
        Matcher matcher = LINE.matcher(line);
        boolean understood = crane != null && matcher.matches();
        Check.holds("README.md has a call and its answer here: " + line, understood);
        if (understood) {
            tried.add(matcher.group(1));
            answered.add(matcher.group(3));
            Check.due("README.md: " + line, answer(matcher.group(1), matcher.group(2)), number(matcher.group(3)));
        }
    }

    private static long answer(String name, String words) throws ReflectiveOperationException {
        String[] arguments = words.isEmpty() ? new String[0] : words.split(", ");
        for (Method method : ClawCranes.class.getMethods()) {
            if (method.getName().equals(name) && method.getParameterCount() == arguments.length) {
                return ((Number) method.invoke(crane, numbers(method, arguments))).longValue();
            }
        }
        throw new NoSuchMethodException(name + " with " + arguments.length + " arguments");
    }

    private static Object[] numbers(Method method, String[] arguments) throws ReflectiveOperationException {
        Object[] numbers = new Object[arguments.length];
        for (int i = 0; i < arguments.length; i++) {
            long number = number(arguments[i].replace("ClawCranes.", ""));
            numbers[i] = method.getParameterTypes()[i] == long.class ? (Object) number : (Object) (int) number;
        }
        return numbers;
    }

    /** A number, or a constant of the class by its name. */
    private static long number(String word) throws ReflectiveOperationException {
        if (word.matches("[A-Z_]+")) {
            return ClawCranes.class.getField(word).getInt(null);
        }
        return Long.decode(word.replaceAll("L$", ""));
    }
}
