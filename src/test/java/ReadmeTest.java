import java.io.IOException;
import java.lang.reflect.Field;
import java.lang.reflect.Method;
import java.lang.reflect.Modifier;
import java.nio.file.Files;
import java.nio.file.Path;
import java.util.Arrays;
import java.util.regex.Matcher;
import java.util.regex.Pattern;

/** README.md tells every member of the face, and its example answers what it says. */
public final class ReadmeTest {
    private static final Pattern CALL =
        Pattern.compile("m\\.(\\w+)\\(([-0-9, ]*)\\); +// (-?[0-9]+)\\b.*");
    private static final Checks CHECKS = new Checks();

    public static void main(String[] args) throws IOException, ReflectiveOperationException {
        String text = Files.readString(Path.of("README.md"));
        tellsTheConstants(text);
        tellsTheMethods(text);
        exampleAnswers(text);
        CHECKS.finish("ReadmeTest");
    }

    private static void tellsTheConstants(String text) throws ReflectiveOperationException {
        for (Field f : SpecLoadSched.class.getFields()) {
            String row = "| `" + f.getName() + "` | " + f.getInt(null) + " | ";
            CHECKS.holds("README.md has a row " + row, text.contains("\n" + row));
        }
    }

    private static void tellsTheMethods(String text) {
        for (Method m : SpecLoadSched.class.getDeclaredMethods()) {
            if (Modifier.isPublic(m.getModifiers())) {
                String operands = m.getParameterCount() == 0 ? "" : "\\w+"
                    + ", \\w+".repeat(m.getParameterCount() - 1);
                Pattern row = Pattern.compile("^\\| `" + m.getName() + "\\(" + operands
                    + "\\)` \\| \\S", Pattern.MULTILINE);
                CHECKS.holds("README.md has a row for " + m, row.matcher(text).find());
            }
        }
    }

    private static void exampleAnswers(String text) throws ReflectiveOperationException {
        SpecLoadSched x = new SpecLoadSched();
        int calls = 0;
        for (String line : text.lines().filter(l -> l.startsWith("m.")).toList()) {
            Matcher call = CALL.matcher(line);
            CHECKS.holds("readable: " + line, call.matches());
            if (call.matches()) {
                CHECKS.due(line, answer(x, call.group(1), call.group(2)),
                    Integer.parseInt(call.group(3)));
                calls++;
            }
        }
        CHECKS.holds("README.md has an example", calls > 0);
    }

    private static int answer(SpecLoadSched x, String name, String operands)
            throws ReflectiveOperationException {
        Object[] values = Arrays.stream(operands.split(","))
            .map(String::trim).filter(s -> !s.isEmpty()).map(Integer::valueOf).toArray();
        Class<?>[] types = new Class<?>[values.length];
        Arrays.fill(types, int.class);
        return (int) SpecLoadSched.class.getMethod(name, types).invoke(x, values);
    }
}
