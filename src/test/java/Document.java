import java.io.IOException;
import java.io.UncheckedIOException;
import java.nio.file.Files;
import java.nio.file.Path;
import java.util.Map;
import java.util.TreeMap;

/**
 * The words of ../shared/DOC.md, part by part, and which of them a test has quoted.
 * A part is "Promise 1" to "Promise 20", "What it is", or a paragraph of Terms by its first word ("DUE").
 */
final class Document {
    private static final Path FILE = Path.of("../shared/DOC.md");
    private static final String TERMS = "Terms";
    private static final char QUOTED = ' ';

    /** What no test has quoted so far: quoted letters are blanks. */
    private static final Map<String, StringBuilder> REST = new TreeMap<>();
    private static final Map<String, String> PARTS = parts();

    private Document() {
    }

    /** Notes that a test stands for these words of a part: false if the part has no such words. */
    static boolean quote(String part, String words) {
        String text = PARTS.getOrDefault(part, "");
        int start = text.indexOf(words);
        if (start < 0 || words.isEmpty()) {
            return false;
        }
        StringBuilder rest = REST.computeIfAbsent(part, some -> new StringBuilder(text));
        for (int i = start; i < start + words.length(); i++) {
            rest.setCharAt(i, QUOTED);
        }
        return true;
    }

    /** The words of a part that no test has quoted, empty if there are none. */
    static String unquoted(String part) {
        String rest = REST.containsKey(part) ? REST.get(part).toString() : "the whole part";
        return rest.replaceAll("[^A-Za-z0-9]+", " ").trim();
    }

    private static Map<String, String> parts() {
        Map<String, String> parts = new TreeMap<>();
        for (String section : text().split("(?m)^## ")) {
            String[] halves = section.split("\n", 2);
            String heading = halves[0].replaceAll(":.*", "").trim();
            String body = halves.length > 1 ? halves[1] : "";
            parts.put(heading, plain(body));
            if (heading.equals(TERMS)) {
                for (String paragraph : body.trim().split("\n\\s*\n")) {
                    parts.put(paragraph.split("\\W", 2)[0], plain(paragraph));
                }
            }
        }
        return parts;
    }

    /** Without the signature that a promise begins with: FaceTest stands for it. */
    private static String plain(String body) {
        return body.replaceAll("\\s+", " ").trim().replaceFirst("^`[^`]*`: ", "");
    }

    private static String text() {
        try {
            return Files.readString(FILE);
        } catch (IOException problem) {
            throw new UncheckedIOException(problem);
        }
    }
}
