import java.io.IOException;
import java.lang.reflect.InvocationTargetException;
import java.lang.reflect.Method;
import java.nio.file.Files;
import java.nio.file.Path;
import java.util.ArrayList;
import java.util.List;
import java.util.regex.Matcher;
import java.util.regex.Pattern;

/** Runs the lines of README.md that call the class, and compares the answers with those that stand behind them. */
public final class ReadmeTest {
    private static final Pattern CALL = Pattern.compile("x\\.(\\w+)\\((.*)\\); +// (-?\\w+)(:.*)?");
    private static final Pattern SHIFTED = Pattern.compile("'(.)'(?: << (\\d+))?");
    private static final Pattern TEXT = Pattern.compile("\\| `(\\w+)\\(\\)` .*\\| `([^`]+)` +\\|");
    private static final String MADE = "TwoAtMost x = new TwoAtMost();";

    public static void main(String[] args) throws IOException, IllegalAccessException {
        List<String> lines = javaLines();
        List<String> helper = new ArrayList<>();
        TwoAtMost x = new TwoAtMost();
        int calls = 0;
        for (String line : lines) {
            Matcher call = CALL.matcher(line);
            if (call.matches()) {
                Check.is(line, answer(x, call.group(1), call.group(2)).equals(call.group(3)), true);
                calls++;
            } else if (!line.equals(MADE)) {
                helper.add(line);
            }
        }
        Check.is("lines with answers", calls > 30, true);
        Check.is("one object is made", lines.indexOf(MADE) == 0 && lines.lastIndexOf(MADE) == 0, true);
        helperIsTheTests(helper);
        textsCanBeRead();
        Check.end();
    }

    private static List<String> javaLines() throws IOException {
        List<String> lines = new ArrayList<>();
        boolean inside = false;
        for (String line : Files.readAllLines(Path.of("README.md"))) {
            if (line.startsWith("```")) {
                inside = line.equals("```java");
            } else if (inside) {
                lines.add(line);
            }
        }
        return lines;
    }

    private static String answer(TwoAtMost x, String name, String arguments) throws IllegalAccessException {
        try {
            Object[] numbers = numbers(arguments);
            for (Method method : TwoAtMost.class.getMethods()) {
                if (method.getName().equals(name) && method.getParameterCount() == numbers.length) {
                    return String.valueOf(method.invoke(x, numbers));
                }
            }
            return "no such call";
        } catch (InvocationTargetException e) {
            return e.getCause().getClass().getSimpleName();
        }
    }

    private static Object[] numbers(String arguments) {
        if (arguments.isEmpty()) {
            return new Object[0];
        }
        String[] parts = arguments.split(", ");
        Object[] numbers = new Object[parts.length];
        for (int i = 0; i < parts.length; i++) {
            numbers[i] = number(parts[i]);
        }
        return numbers;
    }

    private static int number(String part) {
        int number = 0;
        for (String piece : part.split(" \\| ")) {
            Matcher shifted = SHIFTED.matcher(piece);
            if (shifted.matches()) {
                int places = shifted.group(2) == null ? 0 : Integer.parseInt(shifted.group(2));
                number |= shifted.group(1).charAt(0) << places;
            } else {
                number |= Integer.parseInt(piece);
            }
        }
        return number;
    }

    /** The method that README.md shows for telling strings is the one that the tests tell theirs by. */
    private static void helperIsTheTests(List<String> helper) throws IOException {
        StringBuilder shown = new StringBuilder();
        for (String line : helper) {
            shown.append("    ").append(line).append('\n');
        }
        Check.is("README.md shows a method", helper.isEmpty(), false);
        String source = Files.readString(Path.of("src/test/java/Check.java"));
        Check.is("the method of README.md stands in Check", source.contains(shown), true);
    }

    /** The texts that README.md shows for each call that reads one. */
    private static void textsCanBeRead() throws IOException, IllegalAccessException {
        int texts = 0;
        for (String line : Files.readAllLines(Path.of("README.md"))) {
            Matcher text = TEXT.matcher(line);
            if (text.matches()) {
                TwoAtMost x = new TwoAtMost();
                Check.put(x, text.group(2));
                Check.is(line, Integer.parseInt(answer(x, text.group(1), "")) >= 0, true);
                texts++;
            }
        }
        Check.is("calls that read a text", texts, 4);
    }
}
