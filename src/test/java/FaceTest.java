import java.io.IOException;
import java.lang.reflect.Constructor;
import java.lang.reflect.Field;
import java.lang.reflect.Method;
import java.lang.reflect.Modifier;
import java.nio.file.Files;
import java.nio.file.Path;
import java.util.Arrays;
import java.util.Set;
import java.util.TreeSet;

/**
 * The face of the document, and the rules of LANGUAGE.md that can be seen by reflection or
 * by a search in the text. The program's path is the argument.
 */
public final class FaceTest {
    private static final Check CHECK = new Check();
    private static final String[] METHODS = {
        "addBridge int", "addSegment", "addPort int int int", "addStation int", "setPriority int int",
        "setCost int int", "setBridge int boolean", "setPort int boolean", "moveStation int int", "tick int",
        "settle int", "identifier int", "root int", "rootCost int", "rootPort int", "role int", "state int",
        "stored int int", "portsIn int", "parts", "loops", "send int int", "transmissions int", "entry int int",
        "count int", "save int", "restore int"
    };
    private static final String[] CONSTANTS = {
        "NO_SUCH_BRIDGE -1", "NO_SUCH_SEGMENT -2", "NO_SUCH_PORT -3", "NO_SUCH_STATION -4", "OUT_OF_RANGE -5",
        "FULL -6", "NOT_SETTLED -7", "NOT_SAVED -8", "NONE -9", "DISABLED 0", "ROOT 1", "DESIGNATED 2",
        "ALTERNATE 3", "BACKUP 4", "OFF 0", "BLOCKING 1", "LISTENING 2", "LEARNING 3", "FORWARDING 4"
    };
    /** Words that the rules leave out, each as a pattern for a whole word or sign. */
    private static final String[] FORBIDDEN = {
        "\\bthrow\\b", "\\bthrows\\b", "\\btry\\b", "\\bcatch\\b", "\\bsynchronized\\b", "\\bassert\\b", "->", "::",
        "\\bpackage\\b", "\\bimport\\b", "\\bThread\\b", "\\bRandom\\b", "Exact\\(", "\\bhashCode\\b", "\\btoString\\b",
        "System\\.(?!arraycopy)", "\\bvolatile\\b", "\\bnative\\b", "\\bprotected\\b", "static \\{", "\\bdouble\\b"
    };

    public static void main(String[] args) throws IOException, IllegalAccessException {
        Class<?> face = SpanningTreeProtocol.class;
        CHECK.holds("public and final", Modifier.isPublic(face.getModifiers()) && Modifier.isFinal(face.getModifiers()));
        methods(face);
        constants(face);
        Constructor<?>[] constructors = face.getDeclaredConstructors();
        CHECK.holds("one constructor, public, of nothing", constructors.length == 1
                && Modifier.isPublic(constructors[0].getModifiers()) && constructors[0].getParameterCount() == 0);
        classesInside(face);
        if (args.length > 0) {
            text(Files.readString(Path.of(args[0])));
        }
        CHECK.end();
    }

    private static void methods(Class<?> face) {
        Set<String> found = new TreeSet<>();
        for (Method method : face.getDeclaredMethods()) {
            if (Modifier.isPrivate(method.getModifiers())) {
                CHECK.holds("private " + method.getName() + " has a name of its own", !isFaceName(method.getName()));
                continue;
            }
            StringBuilder signature = new StringBuilder(method.getName());
            for (Class<?> type : method.getParameterTypes()) {
                signature.append(' ').append(type.getName());
            }
            found.add(signature.toString());
            CHECK.holds(signature + " is public, not static, and answers an int",
                    Modifier.isPublic(method.getModifiers()) && !Modifier.isStatic(method.getModifiers())
                    && method.getReturnType() == int.class);
        }
        Set<String> due = new TreeSet<>(Arrays.asList(METHODS));
        CHECK.holds("the methods " + found + " are " + due, found.equals(due));
    }

    private static boolean isFaceName(String name) {
        return Arrays.stream(METHODS).anyMatch(method -> method.split(" ")[0].equals(name));
    }

    private static void constants(Class<?> face) throws IllegalAccessException {
        Set<String> found = new TreeSet<>();
        for (Field field : face.getDeclaredFields()) {
            int modifiers = field.getModifiers();
            if (!Modifier.isPrivate(modifiers)) {
                CHECK.holds(field + " is a constant",
                        Modifier.isPublic(modifiers) && Modifier.isStatic(modifiers) && Modifier.isFinal(modifiers));
                found.add(field.getName() + " " + field.getInt(null));
            }
        }
        Set<String> due = new TreeSet<>(Arrays.asList(CONSTANTS));
        CHECK.holds("the constants " + found + " are " + due, found.equals(due));
    }

    private static void classesInside(Class<?> face) {
        Class<?>[] inside = face.getDeclaredClasses();
        CHECK.holds("at most twelve classes", inside.length < 12);
        for (Class<?> one : inside) {
            int modifiers = one.getModifiers();
            CHECK.holds(one + " is static and not public", Modifier.isStatic(modifiers) && !Modifier.isPublic(modifiers));
            int fields = 0;
            for (Field field : one.getDeclaredFields()) {
                boolean isStatic = Modifier.isStatic(field.getModifiers());
                CHECK.holds(field + " is final if static", !isStatic || Modifier.isFinal(field.getModifiers()));
                fields += isStatic ? 0 : 1;
            }
            CHECK.holds(one + " has some twenty fields at most", fields <= 20);
            for (Method method : one.getDeclaredMethods()) {
                CHECK.holds(method + " has a name of its own", !isFaceName(method.getName()));
                CHECK.holds(method + " has seven parameters at most", method.getParameterCount() <= 7);
            }
        }
    }

    private static void text(String program) {
        String bare = program.replaceAll("(?s)/\\*.*?\\*/", "").replaceAll("//.*", "");
        for (String pattern : FORBIDDEN) {
            CHECK.holds("the program is without " + pattern,
                    !java.util.regex.Pattern.compile(pattern).matcher(bare).find());
        }
        CHECK.holds("all signs are 1 to 127", program.chars().allMatch(sign -> sign > 0 && sign < 128));
    }
}
