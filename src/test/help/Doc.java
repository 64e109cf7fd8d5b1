import java.io.IOException;
import java.io.UncheckedIOException;
import java.nio.file.Files;
import java.nio.file.Path;
import java.util.LinkedHashMap;
import java.util.Map;
import java.util.regex.Matcher;
import java.util.regex.Pattern;

/** DOC.md by its parts: "What it is", "Terms", "Terms 1" to "Terms 5", "Promise 1" to "Promise 49". */
final class Doc {
    private static final Path WHERE = Path.of("../shared/DOC.md");
    private static final Pattern HEAD = Pattern.compile("(?m)^(?:## (Promise \\d+|Terms|[A-Z][^:\n]*).*|={8} (\\d) .*)$");

    private final Map<String, String> parts = new LinkedHashMap<>();

    Doc() {
        String text = read();
        Matcher head = HEAD.matcher(text);
        String name = "";
        int from = 0;
        while (head.find()) {
            parts.put(name, evened(text.substring(from, head.start())));
            name = head.group(1) != null ? head.group(1) : "Terms " + head.group(2);
            // a section's first line has its number and words of the section
            from = head.group(1) != null ? head.end() : head.start();
        }
        parts.put(name, evened(text.substring(from)));
    }

    /** Where a checkout has the project alone there is no document; the tests go on without its words then. */
    static boolean isThere() {
        return Files.isReadable(WHERE);
    }

    private static String read() {
        if (!isThere()) return "";
        try {
            return Files.readString(WHERE);
        } catch (IOException e) {
            throw new UncheckedIOException(e);
        }
    }

    private static String evened(String words) {
        return words.replaceAll("\\s+", " ").trim();
    }

    Map<String, String> parts() {
        return parts;
    }

    /** Where these words stand in a part, or -1 if they don't, or stand there twice. */
    int place(String part, String words) {
        String text = parts.getOrDefault(part, "");
        String looked = evened(words);
        int first = text.indexOf(looked);
        return first == text.lastIndexOf(looked) ? first : -1;
    }
}
