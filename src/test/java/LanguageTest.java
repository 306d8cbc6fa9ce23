import java.io.IOException;
import java.lang.reflect.Field;
import java.lang.reflect.Modifier;
import java.nio.file.Files;
import java.nio.file.Path;
import java.util.ArrayList;
import java.util.List;
import java.util.Map;
import java.util.Set;
import java.util.TreeMap;
import java.util.TreeSet;
import java.util.regex.Matcher;
import java.util.regex.Pattern;

/**
 * The rules of LANGUAGE.md that count something, each check with its rule's number. It reads the
 * program's text, which keeps a method's braces at the indentation of its first line. Methods of
 * the same name are taken as one, so that depths come out too large rather than too small.
 */
public final class LanguageTest {
    private static final Check CHECK = new Check();
    private static final Set<Class<?>> NUMBERS = Set.of(int.class, long.class, boolean.class);
    private static final Set<Class<?>> ROWS = Set.of(int[].class, long[].class);
    private static final int MAX_LINES = 60, MAX_DEPTH = 8, MAX_CLASSES = 12, MAX_FIELDS = 20;
    private static final Pattern METHOD = Pattern.compile(
            "(?m)^( +)(?:(?:public|private|static|final) )*(?:[\\w\\[\\]]+ )?(\\w+)\\([^;]*\\) \\{$");
    private static final Pattern CALL = Pattern.compile("\\b(\\w+)\\(");
    private static final Set<String> KEYWORDS = Set.of("if", "for", "while", "switch");

    private final Map<String, List<String>> bodies = new TreeMap<>();

    public static void main(String[] args) throws IOException {
        fields(SpanningTreeProtocol.class);
        Class<?>[] inside = SpanningTreeProtocol.class.getDeclaredClasses();
        CHECK.holds("11: at most twelve classes", 1 + inside.length <= MAX_CLASSES);
        for (Class<?> one : inside) {
            fields(one);
        }
        if (args.length > 0) {
            new LanguageTest().read(Files.readString(Path.of(args[0])));
        } else {
            CHECK.holds("the program's path is given", false);
        }
        CHECK.end();
    }

    private static void fields(Class<?> one) {
        int count = 0;
        for (Field field : one.getDeclaredFields()) {
            if (Modifier.isStatic(field.getModifiers())) {
                CHECK.holds("5: a constant: " + field,
                        Modifier.isFinal(field.getModifiers()) && NUMBERS.contains(field.getType()));
            } else {
                count++;
                CHECK.holds("3: the type of " + field, isAllowed(field.getType()));
            }
        }
        CHECK.holds("11: some twenty fields in " + one, count <= MAX_FIELDS);
    }

    private static boolean isAllowed(Class<?> type) {
        Class<?> own = type.isArray() ? type.getComponentType() : type;
        return NUMBERS.contains(type) || ROWS.contains(type) || own.getEnclosingClass() == SpanningTreeProtocol.class;
    }

    private void read(String program) {
        String bare = program.replaceAll("(?s)/\\*.*?\\*/", "").replaceAll("//.*", "");
        Matcher method = METHOD.matcher(bare);
        while (method.find()) {
            int end = bare.indexOf("\n" + method.group(1) + "}", method.end());
            String name = method.group(2);
            if (KEYWORDS.contains(name)) {
                continue;
            }
            CHECK.holds("the end of " + name, end >= 0);
            String body = bare.substring(method.end(), Math.max(end, method.end()));
            CHECK.holds("11: the length of " + name, body.lines().count() <= MAX_LINES);
            bodies.computeIfAbsent(name, any -> new ArrayList<>()).add(body);
        }
        CHECK.holds("all methods are read", bodies.keySet().containsAll(Set.of("addBridge", "restore", "makeTick", "join")));
        for (String name : bodies.keySet()) {
            CHECK.holds("8, 11: the calls within " + name + " end", depth(name, new TreeSet<>()) <= MAX_DEPTH);
            madeIn(name);
        }
    }

    /** A method that comes back to itself is as deep as can be. */
    private int depth(String name, Set<String> open) {
        if (!open.add(name)) {
            return Integer.MAX_VALUE;
        }
        int deepest = 0;
        for (String body : bodies.get(name)) {
            for (Matcher call = CALL.matcher(body); call.find();) {
                if (bodies.containsKey(call.group(1))) {
                    deepest = Math.max(deepest, depth(call.group(1), open));
                }
            }
        }
        open.remove(name);
        return deepest == Integer.MAX_VALUE ? deepest : deepest + 1;
    }

    /** Constructors have the names of classes; save makes the copy of a slot, once. */
    private void madeIn(String name) {
        boolean mayMake = Character.isUpperCase(name.charAt(0)) || name.equals("save");
        for (String body : bodies.get(name)) {
            CHECK.holds("12: " + name + " makes no object", mayMake || !body.matches("(?s).*\\bnew\\b.*"));
            CHECK.holds("12: " + name + " makes no object in a loop",
                    !body.matches("(?s).*\\b(for|while) \\(.*\\bnew\\b.*"));
        }
    }
}
