import java.io.IOException;
import java.lang.reflect.Method;
import java.nio.file.Files;
import java.nio.file.Path;
import java.util.HashMap;
import java.util.Map;
import java.util.Set;
import java.util.TreeSet;
import java.util.regex.Matcher;
import java.util.regex.Pattern;

/** The lines of README.md that show how to use the class: each answers what its comment begins with. */
public final class ReadmeTest {
    private static final Pattern LINE =
            Pattern.compile("(?:int (\\w+) = )?x\\.(\\w+)\\(([^)]*)\\);\\s*(?:// (-?\\d+|true|false)?.*)?");

    private final QueueReader reader = new QueueReader();
    private final Map<String, Integer> names = new HashMap<>();
    private final Set<String> shown = new TreeSet<>();

    public static void main(String[] args) throws IOException, ReflectiveOperationException {
        new ReadmeTest().runLines();
        Due.end();
    }

    private void runLines() throws IOException, ReflectiveOperationException {
        boolean isCode = false;
        for (String line : Files.readAllLines(Path.of("README.md"))) {
            isCode = line.startsWith("```") ? line.equals("```java") : isCode;
            if (isCode && (line.startsWith("x.") || line.startsWith("int "))) {
                runLine(line);
            }
        }
        Set<String> all = new TreeSet<>();
        for (Method m : QueueReader.class.getMethods()) {
            if (m.getDeclaringClass() == QueueReader.class) {
                all.add(m.getName());
            }
        }
        Due.same("README.md: the calls that are shown", shown.toString(), all.toString());
    }

    private void runLine(String line) throws ReflectiveOperationException {
        Matcher parts = LINE.matcher(line);
        Due.truth("README.md: " + line + ": can be read", parts.matches());
        if (!parts.matches()) {
            return;
        }
        Method call = methodOf(parts.group(2));
        Object got = call.invoke(reader, argumentsOf(call, parts.group(3)));
        shown.add(call.getName());
        if (parts.group(1) != null) {
            names.put(parts.group(1), (Integer) got);
        }
        Due.same("README.md: " + line, String.valueOf(got), String.valueOf(parts.group(4)));
    }

    private static Method methodOf(String name) throws NoSuchMethodException {
        for (Method m : QueueReader.class.getMethods()) {
            if (m.getName().equals(name)) {
                return m;
            }
        }
        throw new NoSuchMethodException(name);
    }

    private Object[] argumentsOf(Method call, String text) {
        Object[] values = new Object[call.getParameterCount()];
        String[] words = text.split(", ");
        for (int i = 0; i < values.length; i++) {
            if (call.getParameterTypes()[i] == boolean.class) {
                values[i] = Boolean.valueOf(words[i]);
            } else {
                values[i] = names.containsKey(words[i]) ? names.get(words[i]) : Integer.valueOf(words[i]);
            }
        }
        return values;
    }
}
