import java.io.IOException;
import java.lang.reflect.Constructor;
import java.lang.reflect.Method;
import java.lang.reflect.Modifier;
import java.nio.file.Files;
import java.nio.file.Path;
import java.util.Arrays;
import java.util.Set;
import java.util.TreeSet;
import java.util.regex.Matcher;
import java.util.regex.Pattern;

/**
 * The rules of ../shared/LANGUAGE.md that the text of the class can show; FaceTest shows those on members.
 * Of what the rules allow only that is let through which the class needs.
 */
public final class LanguageTest {
    private static final int MOST_PARAMETERS = 7;
    private static final int MOST_CLASSES = 12;
    private static final int MOST_FIELDS = 20;

    private static String code;

    public static void main(String[] args) throws IOException {
        String text = Files.readString(Path.of("src/main/java/ReturnRows.java"));
        Expect.same("texts of ASCII alone", text.chars().allMatch(letter -> letter < 128), true);
        code = withoutCommentsAndTexts(text);
        noOtherWords();
        theLibrary();
        theExceptions();
        theSizes();
        Expect.finish();
    }

    private static String withoutCommentsAndTexts(String text) {
        return text.replaceAll("\"[^\"\n]*\"", "TEXT").replaceAll("(?s)/\\*.*?\\*/", "").replaceAll("//[^\n]*", "");
    }

    private static Set<String> found(String pattern) {
        Set<String> found = new TreeSet<>();
        Matcher matcher = Pattern.compile(pattern).matcher(code);
        while (matcher.find()) {
            found.add(matcher.group(1));
        }
        return found;
    }

    private static void onlyThese(String what, String pattern, String... allowed) {
        Set<String> found = found(pattern);
        found.removeAll(Arrays.asList(allowed));
        Expect.same(what, found.toString(), "[]");
    }

    private static void noOtherWords() {
        onlyThese("forbidden words", "\\b(package|try|catch|finally|synchronized|assert|native|volatile|transient"
                + "|goto|float|double|var)\\b");
        onlyThese("lambdas and method references", "(->|::)");
        onlyThese("static blocks", "(static\\s*\\{)");
        onlyThese("loops without a counter", "\\b(while|do)\\b");
    }

    private static void theLibrary() {
        onlyThese("imports", "import\\s+([^;]+);", "java.util.NoSuchElementException");
        onlyThese("functions of library classes", "\\b([A-Z][a-z]\\w*\\.\\w+)\\s*\\(", "Math.max", "Integer.bitCount");
        onlyThese("things made", "\\bnew\\s+(\\w+)", "Sale", "Return", "IllegalArgumentException",
                "IllegalStateException", "NoSuchElementException", "UnsupportedOperationException");
    }

    private static void theExceptions() {
        onlyThese("throws that are no new exception", "\\bthrow\\s+(?!new\\s+\\w+Exception\\(TEXT\\);)(\\S+)");
        String constructor = "(?s)\\n    +(?:public )?(?:ReturnRows|Sale|Return)\\([^)]*\\) \\{.*?\\n    +\\}\\n";
        Matcher maker = Pattern.compile(constructor).matcher(code);
        int makers = 0;
        while (maker.find()) {
            makers++;
            Expect.same("a throw in a constructor", maker.group().contains("throw"), false);
        }
        Expect.same("constructors", makers, 3);
    }

    private static void theSizes() {
        Class<?>[] inside = ReturnRows.class.getDeclaredClasses();
        Expect.same("classes", inside.length + 1 <= MOST_CLASSES, true);
        theSizesOf(ReturnRows.class);
        for (Class<?> some : inside) {
            theSizesOf(some);
        }
    }

    private static void theSizesOf(Class<?> some) {
        long fields = Arrays.stream(some.getDeclaredFields())
                .filter(field -> !Modifier.isStatic(field.getModifiers())).count();
        Expect.same("fields of " + some.getName(), fields <= MOST_FIELDS, true);
        for (Method method : some.getDeclaredMethods()) {
            Expect.same("parameters of " + method.getName(), method.getParameterCount() <= MOST_PARAMETERS, true);
        }
        for (Constructor<?> maker : some.getDeclaredConstructors()) {
            Expect.same("parameters of " + maker.getName(), maker.getParameterCount() <= MOST_PARAMETERS, true);
        }
    }
}
