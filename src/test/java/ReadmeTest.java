import java.io.IOException;
import java.lang.reflect.Method;
import java.lang.reflect.Modifier;
import java.nio.file.Files;
import java.nio.file.Path;
import java.util.List;
import java.util.Set;
import java.util.TreeSet;
import java.util.regex.Matcher;
import java.util.regex.Pattern;
import java.util.stream.Collectors;
import java.util.stream.Stream;

/** That README.md tells of the class and of its tests as they stand. */
public final class ReadmeTest extends Kit {
    private static final Path README = Path.of("README.md"), TESTS = Path.of("src/test/java");
    private static final Pattern EXAMPLE = Pattern.compile("```java\n(.*?)```", Pattern.DOTALL);
    private static final Pattern CALL = Pattern.compile("x\\.(\\w+)\\((.*)\\); +// (-?\\w+).*");
    private static final Pattern ROW_OF_CALL = Pattern.compile("(?m)^\\| `(\\w+)\\(([^)]*)\\)` \\|");

    public static void main(String[] args) {
        runAll(ReadmeTest.class);
    }

    private static List<Method> face() {
        return Stream.of(ShapeHouse.class.getDeclaredMethods()).filter(m -> Modifier.isPublic(m.getModifiers())).toList();
    }

    private static Method called(String name) {
        return face().stream().filter(m -> m.getName().equals(name)).findFirst().orElseThrow();
    }

    private static Set<String> found(String pattern, String text) {
        Set<String> found = new TreeSet<>();
        Matcher m = Pattern.compile(pattern).matcher(text);
        while (m.find()) {
            found.add(m.group(1));
        }
        return found;
    }

    /** Each call of the examples answers what its remark begins with; no call of the face is left out. */
    private static void examples() throws Exception {
        Matcher example = EXAMPLE.matcher(Files.readString(README));
        Set<String> called = new TreeSet<>();
        while (example.find()) {
            ShapeHouse x = null;
            for (String line : example.group(1).split("\n")) {
                if (line.equals("ShapeHouse x = new ShapeHouse();")) {
                    x = new ShapeHouse();
                } else {
                    called.add(call(x, line));
                }
            }
        }
        due("calls in the examples", called.toString(), names().toString());
    }

    private static Set<String> names() {
        return face().stream().map(Method::getName).collect(Collectors.toCollection(TreeSet::new));
    }

    private static String call(ShapeHouse x, String line) throws Exception {
        Matcher m = CALL.matcher(line);
        if (!m.matches()) {
            due("a line of an example", line, "a call and its answer");
            return line;
        }
        Method call = called(m.group(1));
        long want = m.group(3).matches("-?\\d+") ? Long.parseLong(m.group(3)) : ShapeHouse.class.getField(m.group(3)).getLong(null);
        due(line, (long) call.invoke(x, arguments(call, m.group(2))), want);
        return call.getName();
    }

    private static Object[] arguments(Method call, String text) {
        Class<?>[] types = call.getParameterTypes();
        String[] texts = text.isEmpty() ? new String[0] : text.split(", ");
        Object[] arguments = new Object[texts.length];
        for (int i = 0; i < texts.length; i++) {
            long number = Long.decode(texts[i]);
            arguments[i] = i < types.length && types[i] == int.class ? (Object) (int) number : (Object) number;
        }
        return arguments;
    }

    /** The table of calls has each of the face once, with as many numbers as it takes. */
    private static void table() throws IOException {
        Matcher row = ROW_OF_CALL.matcher(Files.readString(README));
        List<String> rows = new java.util.ArrayList<>();
        while (row.find()) {
            int numbers = row.group(2).isEmpty() ? 0 : row.group(2).split(", ").length;
            due("numbers of " + row.group(1), numbers, called(row.group(1)).getParameterCount());
            rows.add(row.group(1));
        }
        due("calls in the table", rows.stream().sorted().toList().toString(), List.copyOf(names()).toString());
    }

    /** The table of constants has those of the face. */
    private static void constants() throws IOException {
        Set<String> fields = Stream.of(ShapeHouse.class.getFields()).map(f -> f.getName()).collect(Collectors.toCollection(TreeSet::new));
        due("constants", found("(?m)^\\| `([A-Z]+)` \\|", Files.readString(README)).toString(), fields.toString());
    }

    /** The classes inside are named, and no others. */
    private static void classes() throws IOException {
        String text = Files.readString(README);
        String built = text.substring(text.indexOf("## How it is built"), text.indexOf("## Running the tests"));
        Set<String> classes = Stream.of(ShapeHouse.class.getDeclaredClasses()).map(Class::getSimpleName).collect(Collectors.toCollection(TreeSet::new));
        due("classes", found("`([A-Z]\\w+)`", built).toString(), classes.toString());
    }

    /** The tests and what they share are named, and no others. */
    private static void tests() throws IOException {
        String text = Files.readString(README);
        String running = text.substring(text.indexOf("## Running the tests"));
        try (Stream<Path> files = Files.list(TESTS)) {
            Set<String> names = files.map(f -> f.getFileName().toString().replace(".java", "")).collect(Collectors.toCollection(TreeSet::new));
            due("tests", found("`([A-Z]\\w+)`", running).toString(), names.toString());
        }
    }
}
