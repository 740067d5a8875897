import java.io.IOException;
import java.lang.reflect.Method;
import java.lang.reflect.Modifier;
import java.nio.charset.StandardCharsets;
import java.nio.file.Files;
import java.nio.file.Path;
import java.util.regex.Matcher;
import java.util.regex.Pattern;

/** README.md: the example answers what it says, and the table names every call with its parameters. */
public final class ReadmeTest {
    private static final Pattern EXAMPLE_CALL = Pattern.compile("desk\\.(\\w+)\\((.*)\\); +// (-?\\d+).*");
    private static final Pattern DOUBLE_BITS = Pattern.compile("Double\\.doubleToRawLongBits\\((.*)\\)");

    private static final Checks CHECKS = new Checks();

    public static void main(String[] args) throws IOException, ReflectiveOperationException {
        String readme = Files.readString(Path.of("README.md"), StandardCharsets.UTF_8);
        example(readme);
        table(readme);
        CHECKS.end();
    }

    private static void example(String readme) throws ReflectiveOperationException {
        int start = readme.indexOf("```java\n");
        int end = readme.indexOf("```\n", start + 1);
        CHECKS.holds("README.md has an example", start >= 0 && end > start);
        String[] lines = readme.substring(start, end).split("\n");
        StretchDesk desk = new StretchDesk();
        for (int i = 2; i < lines.length; i++) {
            Matcher call = EXAMPLE_CALL.matcher(lines[i]);
            CHECKS.holds("a call with its answer: " + lines[i], call.matches());
            if (call.matches()) {
                CHECKS.due(lines[i], answer(desk, call.group(1), call.group(2)), Long.parseLong(call.group(3)));
            }
        }
    }

    private static long answer(StretchDesk desk, String name, String arguments)
            throws ReflectiveOperationException {
        Method method = named(name);
        String[] texts = arguments.isEmpty() ? new String[0] : arguments.split(", ");
        Class<?>[] types = method.getParameterTypes();
        Object[] values = new Object[texts.length];
        for (int i = 0; i < texts.length; i++) {
            long value = number(texts[i]);
            values[i] = types[i] == int.class ? (Object) (int) value : (Object) value;
        }
        return ((Number) method.invoke(desk, values)).longValue();
    }

    private static Method named(String name) throws NoSuchMethodException {
        for (Method method : StretchDesk.class.getDeclaredMethods()) {
            if (Modifier.isPublic(method.getModifiers()) && method.getName().equals(name)) {
                return method;
            }
        }
        throw new NoSuchMethodException(name);
    }

    private static long number(String text) {
        Matcher bits = DOUBLE_BITS.matcher(text);
        return bits.matches() ? Desks.d(Double.parseDouble(bits.group(1))) : Long.parseLong(text);
    }

    private static void table(String readme) {
        for (Method method : StretchDesk.class.getDeclaredMethods()) {
            if (Modifier.isPublic(method.getModifiers())) {
                String call = method.getName();
                CHECKS.due("the table: parameters of " + call, inTable(readme, call), method.getParameterCount());
            }
        }
    }

    /** How many parameters the table names for a call, or -1 if it doesn't have the call. */
    private static int inTable(String readme, String call) {
        Matcher row = Pattern.compile("(?m)^\\|.*`" + call + "\\(([^)]*)\\)`.*\\|$").matcher(readme);
        if (!row.find()) {
            return -1;
        }
        return row.group(1).isEmpty() ? 0 : row.group(1).split(", ").length;
    }
}
