import java.io.IOException;
import java.lang.reflect.Field;
import java.lang.reflect.Method;
import java.lang.reflect.Modifier;
import java.nio.file.Files;
import java.nio.file.Path;
import java.util.HashMap;
import java.util.List;
import java.util.Map;
import java.util.regex.Matcher;
import java.util.regex.Pattern;
import java.util.stream.Stream;

/** README.md: its example answers as it says there, and it names every call, every answer and every test. */
public final class ReadmeTest {
    private static final Pattern CALL = Pattern.compile("(?:int (\\w+) = )?x\\.(\\w+)\\((.*?)\\);\\s+// (-?\\d+)\\b.*");
    private static final Pattern EXAMPLE = Pattern.compile("(?s)```java\\nRouteWatch x = new RouteWatch\\(\\);\\n(.*?)```");

    private static final Check check = new Check();
    private static final RouteWatch x = new RouteWatch();
    private static final Map<String, Integer> named = new HashMap<>();

    public static void main(String[] args) throws IOException, ReflectiveOperationException {
        Path root = Path.of(args.length > 0 ? args[0] : ".");
        String page = Files.readString(root.resolve("README.md"));
        Matcher example = EXAMPLE.matcher(page);
        check.holds("there is an example", example.find());
        for (String line : example.group(1).split("\n")) {
            answer(line);
        }
        names(page);
        tests(page, root.resolve("src/test/java"));
        check.end("ReadmeTest");
    }

    private static void answer(String line) throws ReflectiveOperationException {
        Matcher call = CALL.matcher(line);
        boolean read = call.matches();
        check.holds("a call with its answer: " + line, read);
        if (read) {
            int got = asked(call.group(2), call.group(3));
            check.due(line, got, Integer.parseInt(call.group(4)));
            named.put(call.group(1), got);
        }
    }

    private static int asked(String name, String arguments) throws ReflectiveOperationException {
        List<String> words = arguments.isEmpty() ? List.of() : List.of(arguments.split(", "));
        for (Method method : RouteWatch.class.getMethods()) {
            if (method.getName().equals(name) && method.getParameterCount() == words.size()) {
                return (int) method.invoke(x, words.stream().map(ReadmeTest::value).toArray());
            }
        }
        throw new IllegalStateException("no call " + name + " with " + words);
    }

    private static Object value(String word) {
        if (word.equals("true") || word.equals("false")) {
            return word.equals("true");
        }
        return named.containsKey(word) ? named.get(word) : Integer.valueOf(word);
    }

    private static void names(String page) {
        for (Method method : RouteWatch.class.getDeclaredMethods()) {
            boolean visible = Modifier.isPublic(method.getModifiers());
            check.holds(method.getName() + " is named", !visible || page.contains("`" + method.getName() + "`"));
        }
        for (Field field : RouteWatch.class.getFields()) {
            check.holds(field.getName() + " is named", page.contains("`" + field.getName() + "`"));
        }
    }

    private static void tests(String page, Path folder) throws IOException {
        check.holds("how the tests are run", page.contains("\n.ci/run\n"));
        try (Stream<Path> files = Files.list(folder)) {
            for (Path file : files.toList()) {
                String name = file.getFileName().toString().replace(".java", "");
                check.holds(name + " is named", !name.endsWith("Test") || page.contains("| `" + name + "` |"));
            }
        }
    }
}
