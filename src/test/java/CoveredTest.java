import java.io.IOException;
import java.nio.file.DirectoryStream;
import java.nio.file.Files;
import java.nio.file.Path;
import java.util.ArrayList;
import java.util.BitSet;
import java.util.LinkedHashMap;
import java.util.List;
import java.util.Map;
import java.util.regex.Matcher;
import java.util.regex.Pattern;

/** Each sentence of the document's promises and terms is said by some test of its boundary cases. */
public final class CoveredTest {
    private static final Due DUE = new Due("CoveredTest");
    private static final Path TESTS = Path.of("src/test/java");
    private static final Pattern SAYS = Pattern.compile("\\bsays\\(((?:\"(?:[^\"\\\\]|\\\\.)*\"|[\\s,+])+)\\)");
    private static final Pattern TEXT = Pattern.compile("\"((?:[^\"\\\\]|\\\\.)*)\"");

    public static void main(String[] args) throws IOException {
        if (!Doc.isThere()) {
            System.out.println("CoveredTest: ../shared/DOC.md is not there to be looked at");
            return;
        }
        Map<String, String> sections = Doc.sections();
        DUE.is("sections", sections.size(), 3 + 3 + 41);
        Map<String, List<String>> said = said();
        for (Map.Entry<String, String> section : sections.entrySet()) {
            String left = left(section.getValue(), said.getOrDefault(section.getKey(), List.of()));
            DUE.is(section.getKey() + ", words that no test says: '" + left + "'", left.isEmpty() ? 0 : 1, 0);
        }
        DUE.end();
    }

    private static Map<String, List<String>> said() throws IOException {
        Map<String, List<String>> said = new LinkedHashMap<>();
        try (DirectoryStream<Path> files = Files.newDirectoryStream(TESTS, "*EdgesTest.java")) {
            for (Path file : files) {
                Matcher call = SAYS.matcher(Files.readString(file));
                while (call.find()) note(call.group(1), said);
            }
        }
        return said;
    }

    /** The first text is the section, all others together are its words. */
    private static void note(String told, Map<String, List<String>> said) {
        Matcher text = TEXT.matcher(told);
        if (!text.find()) return;
        String section = text.group(1);
        StringBuilder words = new StringBuilder();
        while (text.find()) words.append(text.group(1));
        said.computeIfAbsent(section, s -> new ArrayList<>()).add(words.toString());
    }

    /** What is left of a section's words when all that was said of it is taken away. */
    private static String left(String section, List<String> said) {
        BitSet covered = new BitSet();
        for (String words : said) {
            int at = section.indexOf(words);
            DUE.is("in the document: " + words, at >= 0 ? 1 : 0, 1);
            for (; at >= 0; at = section.indexOf(words, at + 1)) covered.set(at, at + words.length());
        }
        StringBuilder left = new StringBuilder();
        for (int i = 0; i < section.length(); i++) {
            if (!covered.get(i) && Character.isLetterOrDigit(section.charAt(i))) left.append(section.charAt(i));
        }
        return left.toString();
    }
}
