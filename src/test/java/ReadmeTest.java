import java.io.IOException;
import java.lang.reflect.InvocationTargetException;
import java.lang.reflect.Method;
import java.lang.reflect.Modifier;
import java.nio.file.DirectoryStream;
import java.nio.file.Files;
import java.nio.file.Path;
import java.util.HashMap;
import java.util.Map;
import java.util.regex.Matcher;
import java.util.regex.Pattern;

/** README.md: its examples answer as their comments say, and it names every call and every test. */
public final class ReadmeTest {
    private static final Pattern EXAMPLE = Pattern.compile("(?s)```java\n(.*?)```");
    private static final Pattern CALL =
        Pattern.compile("(?:int (\\w+) = )?x\\.(\\w+)\\(([^)]*)\\);\\s*// (-?\\d+)\\b.*");
    private static final String NEW_OBJECT = "InputOutput x = new InputOutput();";

    private final InputOutput x = new InputOutput();
    private final Map<String, Integer> names = new HashMap<>();

    public static void main(String[] args) throws IOException, ReflectiveOperationException {
        String text = Files.readString(Path.of("README.md"));
        examples(text);
        calls(text);
        tests(text);
        Check.finish();
    }

    private static void examples(String text) throws ReflectiveOperationException {
        Matcher example = EXAMPLE.matcher(text);
        int count = 0;
        while (example.find()) {
            new ReadmeTest().follow(example.group(1).split("\n"));
            count++;
        }
        Check.holds("there are examples", count > 0);
    }

    private void follow(String[] lines) throws ReflectiveOperationException {
        Check.holds("an example begins with a new object", lines[0].equals(NEW_OBJECT));
        for (int i = 1; i < lines.length; i++) {
            Matcher call = CALL.matcher(lines[i]);
            if (!call.matches()) {
                Check.holds("a call with what it answers: " + lines[i], false);
                continue;
            }
            int answer = answer(call.group(2), call.group(3).isEmpty() ? new String[0] : call.group(3).split(", "));
            Check.due("README.md: " + lines[i], answer, Integer.parseInt(call.group(4)));
            names.put(call.group(1), answer);
        }
    }

    private int answer(String name, String[] parts) throws ReflectiveOperationException {
        for (Method m : InputOutput.class.getDeclaredMethods()) {
            if (m.getName().equals(name) && m.getParameterCount() == parts.length) {
                return (int) invoked(m, parts);
            }
        }
        throw new NoSuchMethodException(name);
    }

    private Object invoked(Method m, String[] parts) throws IllegalAccessException, InvocationTargetException {
        Object[] values = new Object[parts.length];
        for (int i = 0; i < parts.length; i++) {
            values[i] = m.getParameterTypes()[i] == boolean.class ? (Object) Boolean.valueOf(parts[i])
                : names.containsKey(parts[i]) ? names.get(parts[i]) : Integer.valueOf(parts[i]);
        }
        return m.invoke(x, values);
    }

    private static void calls(String text) {
        for (Method m : InputOutput.class.getDeclaredMethods()) {
            boolean named = text.contains("`" + m.getName() + "(");
            Check.holds("README.md names " + m.getName(), named || !Modifier.isPublic(m.getModifiers()));
        }
    }

    private static void tests(String text) throws IOException {
        try (DirectoryStream<Path> found = Files.newDirectoryStream(Path.of("src/test/java"), "*Test.java")) {
            for (Path test : found) {
                String name = test.getFileName().toString().replace(".java", "");
                Check.holds("README.md names " + name, text.contains("`" + name + "`"));
            }
        }
    }
}
