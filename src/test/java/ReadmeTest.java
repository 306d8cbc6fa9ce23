import java.io.IOException;
import java.lang.reflect.Field;
import java.lang.reflect.Method;
import java.lang.reflect.Modifier;
import java.nio.file.Files;
import java.nio.file.Path;
import java.util.ArrayList;
import java.util.List;
import java.util.regex.Matcher;
import java.util.regex.Pattern;
import java.util.stream.Stream;

/** README.md: its examples answer what it says, and it leaves out no call, no constant and no test. */
public final class ReadmeTest {
    private static final Check CHECK = new Check();
    private static final Class<?> FACE = SpanningTreeProtocol.class;
    private static final Pattern BLOCK = Pattern.compile("(?s)```java\n(.*?)```");
    private static final Pattern CALL = Pattern.compile("net\\.(\\w+)\\(([^)]*)\\);\\s+// (-?\\d+)\\b.*");
    private static final String BEGIN = "SpanningTreeProtocol net = new SpanningTreeProtocol();";

    public static void main(String[] args) throws IOException, ReflectiveOperationException {
        if (args.length > 0) {
            Path root = Path.of(args[0]).resolve("../../../..").normalize();
            String readme = Files.readString(root.resolve("README.md"));
            examples(readme);
            table(readme);
            constants(readme);
            tests(readme, root.resolve("src/test/java"));
        } else {
            CHECK.holds("the program's path is given", false);
        }
        CHECK.end();
    }

    private static void examples(String readme) throws ReflectiveOperationException {
        int blocks = 0;
        for (Matcher block = BLOCK.matcher(readme); block.find(); blocks++) {
            SpanningTreeProtocol net = new SpanningTreeProtocol();
            String[] lines = block.group(1).split("\n");
            CHECK.holds("an example begins with a new object", lines[0].equals(BEGIN));
            for (int i = 1; i < lines.length; i++) {
                example(net, lines[i]);
            }
        }
        CHECK.holds("there are examples", blocks > 0);
    }

    private static void example(SpanningTreeProtocol net, String line) throws ReflectiveOperationException {
        Matcher call = CALL.matcher(line);
        if (!call.matches()) {
            CHECK.holds("a call with its answer: " + line, false);
            return;
        }
        List<Object> values = new ArrayList<>();
        for (String word : words(call.group(2))) {
            values.add(value(word));
        }
        Object answer = methodNamed(call.group(1)).invoke(net, values.toArray());
        CHECK.due("README: " + line, (Integer) answer, Integer.parseInt(call.group(3)));
    }

    private static Object value(String word) throws ReflectiveOperationException {
        if (word.equals("true") || word.equals("false")) {
            return word.equals("true");
        }
        String prefix = "SpanningTreeProtocol.";
        return word.startsWith(prefix) ? FACE.getField(word.substring(prefix.length())).getInt(null)
                : (Object) Integer.valueOf(word);
    }

    private static String[] words(String list) {
        return list.isBlank() ? new String[0] : list.split(", ");
    }

    private static Method methodNamed(String name) {
        return Stream.of(FACE.getDeclaredMethods()).filter(method -> method.getName().equals(name)).findFirst()
                .orElseThrow(() -> new IllegalStateException("no method " + name));
    }

    private static void table(String readme) {
        for (Method method : FACE.getDeclaredMethods()) {
            if (Modifier.isPublic(method.getModifiers())) {
                Matcher row = Pattern.compile("(?m)^\\| `" + method.getName() + "\\(([^)]*)\\)` \\|").matcher(readme);
                CHECK.holds("a row for " + method, row.find() && words(row.group(1)).length == method.getParameterCount());
            }
        }
    }

    private static void constants(String readme) throws IllegalAccessException {
        for (Field field : FACE.getFields()) {
            CHECK.holds("named: " + field, Pattern.compile("\\b" + field.getName() + "\\b").matcher(readme).find());
            if (field.getInt(null) < 0) {
                CHECK.holds("with its number: " + field, readme.contains(field.getName() + " = " + field.getInt(null)));
            }
        }
    }

    private static void tests(String readme, Path directory) throws IOException {
        try (Stream<Path> files = Files.list(directory)) {
            files.map(file -> file.getFileName().toString().replace(".java", ""))
                    .forEach(name -> CHECK.holds("named: " + name, readme.contains("`" + name + "`")));
        }
    }
}
