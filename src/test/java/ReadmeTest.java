import java.io.IOException;
import java.lang.reflect.Method;
import java.lang.reflect.Modifier;
import java.nio.file.Files;
import java.nio.file.Path;
import java.util.ArrayList;
import java.util.HashMap;
import java.util.List;
import java.util.Map;
import java.util.regex.Matcher;
import java.util.regex.Pattern;
import java.util.stream.Stream;

/** README.md's example: each call answers what the comment behind it says, and none of the face is left out. */
public final class ReadmeTest {
    private static final Pattern TOLD = Pattern.compile("long (\\w+) = (\\d+)L << 23 \\| (\\d+) << 20 \\| (\\d+); .*");
    private static final Pattern CALL = Pattern.compile("rows\\.(\\w+\\(.*?\\)); +// (throws \\w+|[-\\w]+)(: .*)?");
    private static final Map<String, String> REFUSALS = Map.of(
            "throws IndexOutOfBoundsException", "index", "throws IllegalStateException", "turn",
            "throws IllegalArgumentException", "range", "throws UnsupportedOperationException", "meaning");

    public static void main(String[] args) throws IOException {
        List<String> lines = linesOf(example());
        Runs runs = new Runs();
        runs.run("README.md", lines.toArray(String[]::new));
        for (Method m : ToldRows.class.getDeclaredMethods()) {
            if (Modifier.isPublic(m.getModifiers()) && lines.stream().noneMatch(line -> line.startsWith(m.getName() + "("))) {
                throw new AssertionError("README.md's example does not call " + m.getName());
            }
        }
        runs.end();
    }

    private static List<String> example() throws IOException {
        String[] parts = Files.readString(Path.of("README.md")).split("```java\n|```\n");
        if (parts.length != 3) {
            throw new AssertionError("README.md has not just one example");
        }
        return Stream.of(parts[1].split("\n")).filter(line -> !line.isBlank()).toList();
    }

    /** The example's calls as Runs takes them; a line that is neither a call nor a telling's long is refused. */
    private static List<String> linesOf(List<String> example) {
        Map<String, String> tolds = new HashMap<>();
        List<String> lines = new ArrayList<>();
        for (String line : example) {
            Matcher told = TOLD.matcher(line);
            Matcher call = CALL.matcher(line);
            if (told.matches()) {
                tolds.put(told.group(1), told.group(2) + ":" + told.group(3) + ":" + told.group(4));
            } else if (call.matches()) {
                lines.add(withTolds(call.group(1), tolds) + " = " + REFUSALS.getOrDefault(call.group(2), call.group(2)));
            } else if (!line.equals("ToldRows rows = new ToldRows();")) {
                throw new AssertionError("README.md's example has a line that can't be read: " + line);
            }
        }
        return lines;
    }

    private static String withTolds(String call, Map<String, String> tolds) {
        String text = call;
        for (Map.Entry<String, String> told : tolds.entrySet()) {
            text = text.replace(", " + told.getKey() + ",", ", " + told.getValue() + ",");
        }
        return text;
    }
}
