import java.io.IOException;
import java.lang.reflect.Method;
import java.lang.reflect.Modifier;
import java.nio.file.Files;
import java.nio.file.Path;
import java.util.HashMap;
import java.util.Map;
import java.util.regex.Matcher;
import java.util.regex.Pattern;

/** README.md tells the truth: its example is run line by line, and no call or test is left out. */
public final class ReadmeTest {
    private static final Pattern EXAMPLE = Pattern.compile("```java\n(.*?)```", Pattern.DOTALL);
    private static final Pattern LINE =
            Pattern.compile("(?:int (\\w+) = )?rows\\.(\\w+)\\(([^)]*)\\);\\s*// (?:(-?\\d+): )?\\S.*");
    private static final String FIRST_LINE = "ReturnRows rows = new ReturnRows();";

    private final ReturnRows rows = new ReturnRows();
    private final Map<String, String> variables = new HashMap<>();

    public static void main(String[] args) throws IOException, ReflectiveOperationException {
        String page = Files.readString(Path.of("README.md"));
        new ReadmeTest().runExample(page);
        everyCallIsNamed(page);
        everyTestIsNamed(page);
        Expect.finish();
    }

    private void runExample(String page) throws ReflectiveOperationException {
        Matcher example = EXAMPLE.matcher(page);
        Expect.same("an example", example.find(), true);
        for (String line : example.group(1).split("\n")) {
            if (!line.equals(FIRST_LINE)) {
                runLine(line);
            }
        }
    }

    private void runLine(String line) throws ReflectiveOperationException {
        Matcher parts = LINE.matcher(line);
        boolean fits = parts.matches();
        Expect.same("a call with a comment: " + line, fits, true);
        if (!fits) {
            return;
        }
        Object answer = ask(parts.group(2), parts.group(3).split(", "));
        Expect.same("an answer told for " + line, parts.group(4) != null, answer != null);
        if (answer != null) {
            Expect.same(line, String.valueOf(answer), String.valueOf(parts.group(4)));
        }
        if (parts.group(1) != null) {
            variables.put(parts.group(1), String.valueOf(answer));
        }
    }

    private Object ask(String name, String[] texts) throws ReflectiveOperationException {
        for (Method method : ReturnRows.class.getMethods()) {
            if (method.getName().equals(name)) {
                return method.invoke(rows, arguments(method.getParameterTypes(), texts));
            }
        }
        throw new NoSuchMethodException(name);
    }

    private Object[] arguments(Class<?>[] types, String[] texts) {
        Object[] values = new Object[texts.length];
        for (int i = 0; i < texts.length; i++) {
            String text = variables.getOrDefault(texts[i], texts[i]);
            values[i] = types[i] == boolean.class ? (Object) Boolean.valueOf(text) : (Object) Integer.valueOf(text);
        }
        return values;
    }

    private static void everyCallIsNamed(String page) {
        for (Method method : ReturnRows.class.getDeclaredMethods()) {
            if (Modifier.isPublic(method.getModifiers())) {
                Expect.same("a row of " + method.getName(), page.contains("| `" + method.getName() + "("), true);
            }
        }
    }

    private static void everyTestIsNamed(String page) throws IOException {
        try (var files = Files.newDirectoryStream(Path.of("src/test/java"), "*Test.java")) {
            for (Path file : files) {
                String name = file.getFileName().toString().replace(".java", "");
                Expect.same("a row with " + name, page.contains("`" + name + "`"), true);
            }
        }
    }
}
