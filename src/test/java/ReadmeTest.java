import java.io.File;
import java.io.IOException;
import java.lang.reflect.InvocationTargetException;
import java.lang.reflect.Method;
import java.nio.file.Files;
import java.nio.file.Path;
import java.util.ArrayList;
import java.util.List;
import java.util.Set;
import java.util.TreeSet;
import java.util.regex.Matcher;
import java.util.regex.Pattern;

/** README.md: its calls answer as it says, its texts have the errors that it tells, its tests exist. */
final class ReadmeTest {
    private static final Pattern NEW = Pattern.compile("CornerClaims claims = new CornerClaims\\(\\);.*");
    private static final Pattern CALL = Pattern.compile(
            "claims\\.(\\w+)\\(([^)]*)\\); +// (-?\\d+|throws \\w+)(:? .*)?");
    private static final Pattern APPENDED = Pattern.compile(": \"([^\"]{20})\"");
    private static final Pattern ERROR_ROW = Pattern.compile("\\| `([^`]+)` \\| `([A-Z_]+)` \\| (\\d+) \\|");
    private static final Pattern TEST_NAME = Pattern.compile("`(\\w+Test)`");
    private static final Pattern TEST_RANGE = Pattern.compile("`Promise01Test` to `Promise26Test`");

    private static CornerClaims claims = null;
    private static int calls = 0;
    private static int rows = 0;

    private ReadmeTest() {
    }

    public static void main(String[] args) throws IOException {
        List<String> lines = Files.readAllLines(Path.of("README.md"));
        boolean isJava = false;
        for (String line : lines) {
            if (line.startsWith("```")) {
                isJava = line.equals("```java");
            } else if (isJava) {
                code(line);
            } else if (line.startsWith("| `")) {
                errorRow(line);
            }
        }
        Due.answer("there are calls in README.md", calls > 20 ? 1 : 0, 1);
        Due.answer("rows of errors in README.md", rows, 4);
        tests(String.join("\n", lines));
        Due.end();
    }

    private static void code(String line) {
        if (NEW.matcher(line).matches()) {
            claims = new CornerClaims();
            return;
        }
        Matcher call = CALL.matcher(line);
        Due.answer("README.md tells what is answered: " + line, call.matches() ? 1 : 0, 1);
        if (call.matches()) {
            calls++;
            Due.answer("README.md: " + line, call.group(3).equals(told(call)) ? 1 : 0, 1);
            appendedText(line, call);
        }
    }

    /** The answer, or "throws" and the exception's name. */
    private static String told(Matcher call) {
        int[] given = numbers(call.group(2));
        Object[] arguments = new Object[given.length];
        Class<?>[] types = new Class<?>[given.length];
        for (int k = 0; k < given.length; k++) {
            arguments[k] = given[k];
            types[k] = int.class;
        }
        try {
            Method method = CornerClaims.class.getMethod(call.group(1), types);
            return String.valueOf(method.invoke(claims, arguments));
        } catch (InvocationTargetException e) {
            return "throws " + e.getCause().getClass().getSimpleName();
        } catch (ReflectiveOperationException e) {
            return "no such method";
        }
    }

    private static int[] numbers(String list) {
        if (list.isEmpty()) {
            return new int[0];
        }
        String[] parts = list.split(", ");
        int[] numbers = new int[parts.length];
        for (int k = 0; k < parts.length; k++) {
            numbers[k] = Integer.decode(parts[k]);
        }
        return numbers;
    }

    private static void appendedText(String line, Matcher call) {
        if (!call.group(1).equals("append")) {
            return;
        }
        StringBuilder text = new StringBuilder();
        for (int word : numbers(call.group(2))) {
            for (int shift = 24; shift >= 0; shift -= 8) {
                text.append((char) (word >> shift & 255));
            }
        }
        Matcher quoted = APPENDED.matcher(line);
        Due.answer("the words are those of the text: " + line,
                quoted.find() && quoted.group(1).contentEquals(text) ? 1 : 0, 1);
    }

    private static void errorRow(String line) {
        Matcher row = ERROR_ROW.matcher(line);
        Due.answer("README.md tells an error: " + line, row.matches() ? 1 : 0, 1);
        if (row.matches()) {
            rows++;
            Texts.dueError(row.group(1), code(line, row.group(2)), Integer.parseInt(row.group(3)));
        }
    }

    private static int code(String line, String name) {
        try {
            return CornerClaims.class.getField(name).getInt(null);
        } catch (ReflectiveOperationException e) {
            throw new IllegalArgumentException("there is no " + name + ": " + line);
        }
    }

    private static void tests(String readme) {
        Set<String> named = new TreeSet<>();
        Matcher name = TEST_NAME.matcher(readme);
        while (name.find()) {
            named.add(name.group(1));
        }
        for (int promise = 1; promise <= 26 && TEST_RANGE.matcher(readme).find(); promise++) {
            named.add((promise < 10 ? "Promise0" : "Promise") + promise + "Test");
        }
        Set<String> there = new TreeSet<>();
        String[] files = new File("src/test/java").list();
        for (String file : files == null ? new String[0] : files) {
            if (file.endsWith("Test.java")) {
                there.add(file.substring(0, file.length() - ".java".length()));
            }
        }
        List<String> unlike = new ArrayList<>(named);
        unlike.removeAll(there);
        Due.answer("tests that README.md names and that are not there: " + unlike, unlike.size(), 0);
        unlike = new ArrayList<>(there);
        unlike.removeAll(named);
        Due.answer("tests that README.md does not name: " + unlike, unlike.size(), 0);
        Due.answer("the command is a line of README.md", readme.contains("\n    .ci/run\n") ? 1 : 0, 1);
        Due.answer("the command can be run", new File(".ci/run").canExecute() ? 1 : 0, 1);
    }
}
