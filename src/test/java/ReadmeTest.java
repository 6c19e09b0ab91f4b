import java.io.IOException;
import java.lang.reflect.Method;
import java.nio.file.Files;
import java.nio.file.Path;
import java.util.List;
import java.util.Set;
import java.util.TreeSet;
import java.util.regex.Matcher;
import java.util.regex.Pattern;

/** The calls of the README's example, each with the answer that stands behind it. */
public final class ReadmeTest {
    private static final Pattern CALL = Pattern.compile("wall\\.(\\w+)\\((.*)\\); +// (\\w+): \\S.*");
    private static final Pattern TEXT = Pattern.compile("characters\\(\"([^\"]+)\"\\)");

    private ReadmeTest() { }

    public static void main(String[] args) throws IOException, ReflectiveOperationException {
        Due due = new Due();
        String readme = Files.readString(Path.of("README.md"));
        example(due, readme);
        everyCallIsNamed(due, readme);
        everyTestIsNamed(due, readme);
        due.end();
    }

    private static void example(Due due, String readme) throws ReflectiveOperationException {
        VarnishPrices wall = new VarnishPrices();
        List<String> calls = readme.lines().filter(line -> line.startsWith("wall.")).toList();
        due.holds("there is an example", !calls.isEmpty());
        for (String line : calls) {
            Matcher call = CALL.matcher(line);
            if (call.matches()) {
                due.due(line, answer(wall, call.group(1), call.group(2)), number(call.group(3)));
            } else {
                due.holds("an answer stands behind " + line, false);
            }
        }
    }

    private static int answer(VarnishPrices wall, String name, String arguments) throws ReflectiveOperationException {
        Matcher text = TEXT.matcher(arguments);
        if (text.matches()) {
            return wall.put(Due.chars(text.group(1)));
        }
        String[] given = arguments.isEmpty() ? new String[0] : arguments.split(", ");
        Class<?>[] types = new Class<?>[given.length];
        Object[] values = new Object[given.length];
        for (int i = 0; i < given.length; i++) {
            types[i] = int.class;
            values[i] = Integer.valueOf(given[i]);
        }
        return (Integer) VarnishPrices.class.getMethod(name, types).invoke(wall, values);
    }

    /** A number, or a constant's name. */
    private static int number(String answer) throws ReflectiveOperationException {
        if (answer.matches("[A-Z_]+")) {
            return VarnishPrices.class.getField(answer).getInt(null);
        }
        return Integer.parseInt(answer);
    }

    private static void everyCallIsNamed(Due due, String readme) {
        Set<String> names = new TreeSet<>();
        for (Method method : VarnishPrices.class.getMethods()) {
            if (method.getDeclaringClass() == VarnishPrices.class) {
                names.add(method.getName());
            }
        }
        for (String name : names) {
            due.holds("the README names " + name, readme.contains("`" + name + "`"));
        }
    }

    private static void everyTestIsNamed(Due due, String readme) throws IOException {
        try (var files = Files.list(Path.of("src/test/java"))) {
            for (Path file : files.sorted().toList()) {
                String name = file.getFileName().toString().replace(".java", "");
                if (name.endsWith("Test")) {
                    due.holds("the README names " + name, readme.contains("| " + name + " |"));
                }
            }
        }
    }
}
