import java.io.File;
import java.io.IOException;
import java.lang.reflect.Method;
import java.lang.reflect.Modifier;
import java.nio.file.Files;
import java.nio.file.Path;
import java.util.regex.Matcher;
import java.util.regex.Pattern;

/**
 * Holds README.md to the class: each line of its examples answers the number behind it, each call of the
 * document's face is told of, and each test of the project stands in its table.
 */
public final class ReadmeTest {
    private static final Path README = Path.of("README.md");
    private static final File TESTS = new File("src/test/java");
    private static final Pattern EXAMPLE = Pattern.compile("(?s)```java\n(.*?)```");
    private static final Pattern NEW = Pattern.compile("FreeWheelDown x = new FreeWheelDown\\(\\);");
    private static final Pattern LETTERS = Pattern.compile(
        "for \\(char letter : \"([^\"]*)\"\\.toCharArray\\(\\)\\) x\\.feed\\(letter\\);");
    private static final Pattern CALL = Pattern.compile("x\\.(\\w+)\\(([-0-9, ]*)\\);\\s*// (-?\\d+)\\b.*");

    private ReadmeTest() {
    }

    public static void main(String[] args) throws IOException, ReflectiveOperationException {
        String readme = Files.readString(README);
        examples(readme);
        allCallsAreNamed(readme);
        allTestsAreNamed(readme);
        refusals(readme);
        Check.end();
    }

    private static void examples(String readme) throws ReflectiveOperationException {
        Matcher example = EXAMPLE.matcher(readme);
        int examples = 0;
        while (example.find()) {
            run(example.group(1));
            examples++;
        }
        Check.holds("README.md has examples", examples > 0);
    }

    private static void run(String example) throws ReflectiveOperationException {
        FreeWheelDown x = new FreeWheelDown();
        int answers = 0;
        for (String line : example.split("\n")) {
            Matcher letters = LETTERS.matcher(line);
            Matcher call = CALL.matcher(line);
            if (NEW.matcher(line).matches()) {
                x = new FreeWheelDown();
            } else if (letters.matches()) {
                Check.tell(x, letters.group(1));
            } else if (call.matches()) {
                Check.due("README.md: " + line, answer(x, call.group(1), call.group(2)), Long.parseLong(call.group(3)));
                answers++;
            } else {
                Check.holds("a line of an example tells its answer: " + line, line.isBlank());
            }
        }
        Check.holds("an example has answers", answers > 0);
    }

    private static long answer(FreeWheelDown x, String name, String told) throws ReflectiveOperationException {
        String[] numbers = told.isBlank() ? new String[0] : told.split(",\\s*");
        Class<?>[] types = new Class<?>[numbers.length];
        Object[] values = new Object[numbers.length];
        for (int i = 0; i < numbers.length; i++) {
            types[i] = int.class;
            values[i] = Integer.valueOf(numbers[i].trim());
        }
        return ((Number) FreeWheelDown.class.getMethod(name, types).invoke(x, values)).longValue();
    }

    private static void allCallsAreNamed(String readme) {
        for (Method method : FreeWheelDown.class.getDeclaredMethods()) {
            if (Modifier.isPublic(method.getModifiers())) {
                boolean isNamed = Pattern.compile("\\b" + method.getName() + "\\(").matcher(readme).find();
                Check.holds("README.md tells of " + method.getName() + "()", isNamed);
            }
        }
    }

    private static void allTestsAreNamed(String readme) {
        String[] files = TESTS.list();
        int tests = 0;
        for (String file : files == null ? new String[0] : files) {
            if (file.endsWith("Test.java")) {
                String name = file.substring(0, file.length() - ".java".length());
                Check.holds("README.md's table has " + name, readme.contains("| " + name + " |"));
                tests++;
            }
        }
        Check.holds("tests were found in " + TESTS, tests > 0);
    }

    /** Not each refusal is below 0: gain(), mean() and wind() answer great numbers. */
    private static void refusals(String readme) {
        FreeWheelDown x = new FreeWheelDown();
        Check.holds("README.md tells of gain()'s refusal", readme.contains("" + x.gain(0)));
        Check.holds("README.md tells of mean()'s refusal", readme.contains("" + x.mean(2)));
        Check.holds("README.md tells of wind()'s refusal", readme.contains("" + x.wind(-1, 2, 0)));
    }
}
