import java.io.IOException;
import java.io.UncheckedIOException;
import java.nio.file.Files;
import java.nio.file.Path;
import java.util.LinkedHashMap;
import java.util.Map;
import java.util.regex.Matcher;
import java.util.regex.Pattern;

/** The document's words, by section: 'Terms 1' to 'Terms 3', 'Answers', 'In doubt', 'Constants', 'Promise 1' to 'Promise 41'. */
final class Doc {
    private static final Path PLACE = Path.of("../shared/DOC.md");
    private static final Pattern PROMISE = Pattern.compile("## (Promise \\d+):[^\n]*\n(.*?)(?=\n## |\\z)", Pattern.DOTALL);

    private Doc() { }

    static boolean isThere() {
        return Files.isReadable(PLACE);
    }

    private static String all() {
        try {
            return Files.readString(PLACE);
        } catch (IOException e) {
            throw new UncheckedIOException(e);
        }
    }

    /** 'The public face', line by line. */
    static String face() {
        return between(all(), "## The public face", "## Terms");
    }

    static Map<String, String> sections() {
        String all = all();
        Map<String, String> sections = new LinkedHashMap<>();
        String terms = between(all, "## Terms", "## Promise 1:");
        sections.put("Terms 1", plain(between(terms, "==== 1", "==== 2")));
        sections.put("Terms 2", plain(between(terms, "==== 2", "==== 3")));
        sections.put("Terms 3", plain(between(terms, "==== 3", "Answers:")));
        sections.put("Answers", plain(between(terms, "Answers:", "In doubt:")));
        sections.put("In doubt", plain(between(terms, "In doubt:", "The constants:")));
        sections.put("Constants", plain(between(terms + "\u0000", "The constants:", "\u0000")));
        Matcher promise = PROMISE.matcher(all);
        while (promise.find()) sections.put(promise.group(1), plain(behindTheCall(promise.group(2))));
        return sections;
    }

    private static String between(String text, String from, String to) {
        int start = text.indexOf(from);
        int end = text.indexOf(to, start);
        if (start < 0 || end < 0) throw new IllegalStateException("DOC.md has no " + from + " ahead of a " + to);
        return text.substring(start + from.length(), end);
    }

    /** A promise begins with its call between two backticks and a colon. */
    private static String behindTheCall(String promise) {
        return promise.substring(promise.indexOf("`: ") + 3);
    }

    private static String plain(String text) {
        return text.replace("```text", " ").replace("```", " ").replaceAll("\\s+", " ").trim();
    }
}
