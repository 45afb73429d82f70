import java.io.IOException;
import java.lang.reflect.Field;
import java.lang.reflect.Method;
import java.lang.reflect.Modifier;
import java.nio.file.Files;
import java.nio.file.Path;
import java.util.ArrayList;
import java.util.List;
import java.util.Map;
import java.util.Set;
import java.util.TreeMap;
import java.util.TreeSet;
import java.util.regex.Matcher;
import java.util.regex.Pattern;

/**
 * The rules of LANGUAGE.md that can be seen in the words of the source or in the compiled
 * members. That each index is looked at and each loop ends (rules 7 and 8) is not seen here.
 */
public final class LanguageTest {
    private static final Path SOURCE = Path.of("src/main/java/SpecLoadSched.java");
    private static final Pattern COMMENT = Pattern.compile("//[^\n]*|/\\*.*?\\*/", Pattern.DOTALL);
    private static final Pattern TYPE_NAME = Pattern.compile("\\b[A-Z]\\w*[a-z]\\w*\\b");
    private static final Pattern CALL_IN_CALL =
        Pattern.compile("(?<!\\bif )(?<!\\bfor )(?<!\\bwhile )(?<!\\bswitch )(?<=\\w)"
            + "\\([^()]*\\w\\([^()]*\\)");
    private static final Pattern METHOD_HEAD =
        Pattern.compile("    (public|private) [^=;(]*?(\\w+)\\(.*\\) \\{");

    private static final Set<String> TYPES = Set.of("int", "long", "short", "byte", "char",
        "boolean", "int[]", "long[]", "short[]", "byte[]", "char[]", "boolean[]");
    private static final List<String> FORBIDDEN = List.of("package", "import", "class .*\\bclass",
        "interface", "enum", "record", "float", "double", "null", "throw", "throws", "try", "catch",
        "finally", "synchronized", "assert", "instanceof", "protected", "static \\{", "->", "::",
        "\"", "hashCode", "toString", "equals", "getClass", "clone", "notify", "wait");

    private static final Checks CHECKS = new Checks();

    public static void main(String[] args) throws IOException {
        String code = COMMENT.matcher(Files.readString(SOURCE)).replaceAll("");
        noForbiddenWord(code);
        noOtherClass(code);
        arraysAreMadeInFields(code);
        noCallInsideACall(code);
        Map<String, String> bodies = bodies(code);
        methodsAreShort(bodies);
        callsGoSixDeepAtMost(bodies);
        typesAreNumbersAndArrays();
        staticFieldsAreNumbers();
        privateNamesAreTheirOwn();
        CHECKS.finish("LanguageTest");
    }

    private static boolean has(String code, String pattern) {
        boolean isWord = Character.isLetter(pattern.charAt(0));
        String bounded = isWord ? "\\b" + pattern + "(?!\\w)" : pattern;
        return Pattern.compile(bounded, Pattern.DOTALL).matcher(code).find();
    }

    private static void noForbiddenWord(String code) {
        for (String word : FORBIDDEN) {
            CHECKS.holds("rules 1 to 6: no " + word, !has(code, word));
        }
    }

    /** Constants are written in capitals, so a name with capital and small letters is a class. */
    private static void noOtherClass(String code) {
        Set<String> names = new TreeSet<>();
        for (Matcher m = TYPE_NAME.matcher(code); m.find();) {
            names.add(m.group());
        }
        CHECKS.holds("rule 3: names classes " + names, names.equals(Set.of("SpecLoadSched")));
    }

    private static void arraysAreMadeInFields(String code) {
        for (String line : code.lines().filter(l -> has(l, "new")).toList()) {
            CHECKS.holds("rule 4: an array in a field's initialiser: " + line, line.matches(
                "    private final \\w+\\[\\] \\w+ = new \\w+\\[[A-Z0-9_]+\\];"));
        }
        CHECKS.holds("rule 4: an array has a length, not a list of values", !has(code, "= *\\{"));
    }

    private static void noCallInsideACall(String code) {
        List<String> found = new ArrayList<>();
        for (Matcher m = CALL_IN_CALL.matcher(code); m.find();) {
            found.add(m.group());
        }
        CHECKS.holds("rule 10: no call inside a call: " + found, found.isEmpty());
    }

    private static Map<String, String> bodies(String code) {
        Map<String, String> bodies = new TreeMap<>();
        String name = "";
        for (String line : code.lines().toList()) {
            Matcher head = METHOD_HEAD.matcher(line);
            if (head.matches()) {
                name = head.group(2);
                bodies.put(name, "");
            } else if (line.equals("    }")) {
                name = "";
            } else if (!name.isEmpty()) {
                bodies.merge(name, line + "\n", String::concat);
            }
        }
        int compiled = SpecLoadSched.class.getDeclaredMethods().length + 1;
        CHECKS.due("methods and constructor found in the source", bodies.size(), compiled);
        return bodies;
    }

    private static void methodsAreShort(Map<String, String> bodies) {
        bodies.forEach((name, body) -> CHECKS.holds("rule 10: at most 60 lines: " + name,
            body.lines().count() <= 58));
    }

    /** Takes away the methods that call none of those left; what calls itself is never taken. */
    private static void callsGoSixDeepAtMost(Map<String, String> bodies) {
        Set<String> left = new TreeSet<>(bodies.keySet());
        for (int depth = 1; depth <= 6; depth++) {
            Set<String> before = new TreeSet<>(left);
            left.removeIf(name -> before.stream().noneMatch(
                other -> has(bodies.get(name), other + "(?= *\\()")));
        }
        CHECKS.holds("rules 8 and 10: recursive or more than six deep: " + left, left.isEmpty());
    }

    private static void isAllowed(String what, Class<?> type) {
        CHECKS.holds("rule 2: " + what + " is " + type.getSimpleName(),
            TYPES.contains(type.getSimpleName()));
    }

    private static void typesAreNumbersAndArrays() {
        int fields = 0;
        for (Field f : SpecLoadSched.class.getDeclaredFields()) {
            isAllowed(f.getName(), f.getType());
            fields += Modifier.isStatic(f.getModifiers()) ? 0 : 1;
        }
        CHECKS.holds("rule 10: at most 40 fields", fields <= 40);
        for (Method m : SpecLoadSched.class.getDeclaredMethods()) {
            CHECKS.holds("rule 4: no array answered by " + m, !m.getReturnType().isArray());
            if (m.getReturnType() != void.class) {
                isAllowed("answer of " + m.getName(), m.getReturnType());
            }
            for (Class<?> type : m.getParameterTypes()) {
                isAllowed("parameter of " + m.getName(), type);
            }
            CHECKS.holds("rule 10: seven parameters: " + m, m.getParameterCount() <= 7);
        }
    }

    private static void staticFieldsAreNumbers() {
        for (Field f : SpecLoadSched.class.getDeclaredFields()) {
            if (Modifier.isStatic(f.getModifiers())) {
                CHECKS.holds("rule 5: a constant of int or long: " + f,
                    Modifier.isFinal(f.getModifiers())
                        && (f.getType() == int.class || f.getType() == long.class));
            }
        }
    }

    private static void privateNamesAreTheirOwn() {
        for (Method own : SpecLoadSched.class.getDeclaredMethods()) {
            for (Method shown : SpecLoadSched.class.getDeclaredMethods()) {
                boolean same = own.getName().equals(shown.getName());
                CHECKS.holds("rule 1: " + own.getName() + " is private and public", !(same
                    && Modifier.isPrivate(own.getModifiers())
                    && Modifier.isPublic(shown.getModifiers())));
            }
        }
    }
}
