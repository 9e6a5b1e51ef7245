import java.io.IOException;
import java.lang.reflect.InvocationTargetException;
import java.lang.reflect.Method;
import java.nio.file.Files;
import java.nio.file.Path;
import java.util.regex.Matcher;
import java.util.regex.Pattern;

/** README.md tells the truth: its example is called line by line, and all calls and tests are named. */
public final class ReadmeTest {
    private static final Pattern CALL = Pattern.compile("hall\\.(\\w+)\\(([^)]*)\\);");
    private static final Pattern ANSWER = Pattern.compile("// (-?\\d+): ");

    private static int compared = 0;

    public static void main(String[] args) throws IOException {
        Due.under("README.md");
        String text = Files.readString(Path.of("README.md"));
        runExample(text.substring(text.indexOf("```java"), text.indexOf("```", text.indexOf("```java") + 3)));
        allCallsAreNamed(text);
        allFilesAreNamed(text);
        Due.end();
    }

    private static void runExample(String example) {
        MatchHall hall = new MatchHall();
        for (String line : example.split("\n")) {
            runLine(hall, line);
        }
        Due.is("the example has answers", compared > 3 ? 1 : 0, 1);
    }

    /** A number at the start of a line's comment is what its last call answers. */
    private static void runLine(MatchHall hall, String line) {
        Object answer = null;
        Matcher call = CALL.matcher(line);
        while (call.find()) {
            answer = invoke(hall, call.group(1), call.group(2));
        }
        Matcher due = ANSWER.matcher(line);
        if (due.find()) {
            Due.is(line.strip(), String.valueOf(answer), due.group(1));
            compared++;
        }
    }

    private static Object invoke(MatchHall hall, String name, String text) {
        String[] numbers = text.isEmpty() ? new String[0] : text.split(", ");
        Object[] arguments = new Object[numbers.length];
        for (int i = 0; i < numbers.length; i++) {
            arguments[i] = Integer.valueOf(numbers[i]);
        }
        for (Method method : MatchHall.class.getMethods()) {
            if (method.getName().equals(name) && method.getParameterCount() == arguments.length) {
                return answerOf(method, hall, arguments);
            }
        }
        Due.fail("there is no call " + name + " with " + arguments.length + " arguments");
        return null;
    }

    private static Object answerOf(Method method, MatchHall hall, Object[] arguments) {
        try {
            return method.invoke(hall, arguments);
        } catch (InvocationTargetException | IllegalAccessException e) {
            Due.fail(method.getName() + " ended with " + e.getCause());
            return null;
        }
    }

    private static void allCallsAreNamed(String text) {
        for (Method method : MatchHall.class.getMethods()) {
            if (method.getDeclaringClass() == MatchHall.class) {
                Due.is(method.getName() + " is named", text.contains("`" + method.getName() + "`") ? 1 : 0, 1);
            }
        }
    }

    private static void allFilesAreNamed(String text) throws IOException {
        try (var files = Files.newDirectoryStream(Path.of("src/test/java"), "*.java")) {
            for (Path file : files) {
                String name = file.getFileName().toString().replace(".java", "");
                boolean isNamed = Pattern.compile("\\b" + name + "\\b").matcher(text).find();
                Due.is(name + " is named", isNamed ? 1 : 0, 1);
            }
        }
    }
}
