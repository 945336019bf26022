import java.io.IOException;
import java.lang.reflect.InvocationTargetException;
import java.lang.reflect.Method;
import java.lang.reflect.Modifier;
import java.nio.file.Files;
import java.nio.file.Path;
import java.util.Set;
import java.util.TreeSet;
import java.util.regex.Matcher;
import java.util.regex.Pattern;

/** The example of README.md: each line answers what stands behind it, and no call is left out. */
public final class ReadmeTest {
    private static final Pattern BLOCK = Pattern.compile("(?s)```java\n(.*?)```");
    private static final Pattern WRITTEN = Pattern.compile("for \\(char c : \"([^\"]*)\"\\.toCharArray\\(\\)\\) x\\.letter\\(c\\);");
    private static final Pattern CALL = Pattern.compile("x\\.(\\w+)\\(([^()]*)\\); *// (-?\\d+)\\b.*");
    private static final Pattern NO_CALL = Pattern.compile("|// .*|SumBounds x = new SumBounds\\(\\);");

    private final SumBounds x = new SumBounds();
    private final Set<String> called = new TreeSet<>();

    public static void main(String[] args) throws IOException, ReflectiveOperationException {
        Matcher block = BLOCK.matcher(Files.readString(Path.of("README.md")));
        Checks.due("README.md has an example", block.find() ? 1 : 0, 1);
        ReadmeTest test = new ReadmeTest();
        for (String line : block.group(1).split("\n")) test.line(line);
        test.allCalled();
        Checks.end();
    }

    /** A line that is none of these forms would go unlooked at, so it fails. */
    private void line(String line) throws ReflectiveOperationException {
        Matcher written = WRITTEN.matcher(line);
        Matcher call = CALL.matcher(line);
        if (written.matches()) {
            Checks.write(x, written.group(1));
            called.add("letter");
        } else if (call.matches()) {
            Checks.due(line, answer(call.group(1), call.group(2)), Long.parseLong(call.group(3)));
        } else {
            Checks.due("a line of the example: " + line, NO_CALL.matcher(line).matches() ? 1 : 0, 1);
        }
    }

    private long answer(String name, String texts) throws IllegalAccessException, InvocationTargetException {
        called.add(name);
        String[] parts = texts.isBlank() ? new String[0] : texts.split(", ");
        Object[] values = new Object[parts.length];
        for (int i = 0; i < parts.length; i++) {
            boolean isNumber = parts[i].matches("-?\\d+");
            values[i] = isNumber ? (Object) Integer.valueOf(parts[i]) : (Object) Boolean.valueOf(parts[i]);
        }
        return ((Number) methodOf(name).invoke(x, values)).longValue();
    }

    /** The class has no two calls of one name. */
    private static Method methodOf(String name) {
        for (Method m : SumBounds.class.getDeclaredMethods()) {
            if (m.getName().equals(name) && Modifier.isPublic(m.getModifiers())) return m;
        }
        throw new IllegalArgumentException("README.md names no call of the class: " + name);
    }

    private void allCalled() {
        for (Method m : SumBounds.class.getDeclaredMethods()) {
            if (!Modifier.isPublic(m.getModifiers())) continue;
            Checks.due("README.md shows " + m.getName(), called.contains(m.getName()) ? 1 : 0, 1);
        }
    }
}
