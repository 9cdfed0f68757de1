import java.io.IOException;
import java.lang.reflect.Field;
import java.lang.reflect.Method;
import java.lang.reflect.Modifier;
import java.nio.file.Files;
import java.nio.file.Path;
import java.util.Arrays;
import java.util.Set;
import java.util.TreeSet;
import java.util.regex.Matcher;
import java.util.regex.Pattern;

/** What LANGUAGE.md asks of the file, as far as its text and its face show it. */
public final class RulesTest {
    private static final Due DUE = new Due("RulesTest");
    private static final String FACE = "alike block blockOf blocks choose count cover design drop feed hand image item"
            + " judge keep lots meets member moves orbit orbitOf orbits order parted peek points read selves share"
            + " shift solution solved table takes tape turned undo unlike way wayOf";

    public static void main(String[] args) throws IOException {
        String text = Files.readString(Path.of("src/main/java/OrbitDesigns.java"));
        String bare = bare(text);
        face();
        words(text, bare);
        objects(bare);
        methods(bare);
        for (Class<?> c : OrbitDesigns.class.getDeclaredClasses()) insideClass(c);
        DUE.is("classes", OrbitDesigns.class.getDeclaredClasses().length <= 12 ? 1 : 0, 1);
        DUE.end();
    }

    /** Without comments, texts and signs. */
    private static String bare(String text) {
        return text.replaceAll("(?s)/\\*.*?\\*/", " ").replaceAll("//[^\n]*", " ")
                .replaceAll("'(\\\\.|[^'])'", "0").replaceAll("\"[^\"\n]*\"", "0");
    }

    private static void face() {
        Class<?> c = OrbitDesigns.class;
        DUE.is("public and final", c.getModifiers(), Modifier.PUBLIC | Modifier.FINAL);
        Set<String> open = new TreeSet<>();
        for (Method m : c.getDeclaredMethods()) {
            if (m.isSynthetic()) continue;
            if (Modifier.isPublic(m.getModifiers())) DUE.is(m.getName() + " comes once", open.add(m.getName()) ? 1 : 0, 1);
            else DUE.is(m.getName() + " is private", Modifier.isPrivate(m.getModifiers()) ? 1 : 0, 1);
        }
        DUE.is("the face is the document's", open.equals(new TreeSet<>(Arrays.asList(FACE.split(" ")))) ? 1 : 0, 1);
        DUE.is("one constructor", c.getDeclaredConstructors().length, 1);
        int constants = 0;
        for (Field f : c.getDeclaredFields()) {
            if (Modifier.isPublic(f.getModifiers())) constants++;
            else DUE.is(f.getName() + " is private", Modifier.isPrivate(f.getModifiers()) ? 1 : 0, 1);
            if (Modifier.isStatic(f.getModifiers())) {
                DUE.is(f.getName() + " is final", Modifier.isFinal(f.getModifiers()) ? 1 : 0, 1);
            }
        }
        DUE.is("five constants", constants, 5);
        privateNames(c);
    }

    private static void privateNames(Class<?> c) {
        Set<String> open = new TreeSet<>(Arrays.asList(FACE.split(" ")));
        for (Method m : c.getDeclaredMethods()) {
            boolean own = c == OrbitDesigns.class && Modifier.isPublic(m.getModifiers());
            DUE.is(c.getSimpleName() + "." + m.getName() + " has its own name", own || !open.contains(m.getName()) ? 1 : 0, 1);
        }
    }

    private static void insideClass(Class<?> c) {
        DUE.is(c + " is static", Modifier.isStatic(c.getModifiers()) ? 1 : 0, 1);
        DUE.is(c + " is not public", Modifier.isPublic(c.getModifiers()) ? 1 : 0, 0);
        privateNames(c);
        int fields = 0;
        for (Field f : c.getDeclaredFields()) if (!Modifier.isStatic(f.getModifiers())) fields++;
        DUE.is(c + " has twenty fields at most", fields <= 20 ? 1 : 0, 1);
    }

    private static void none(String bare, String pattern) {
        Matcher m = Pattern.compile(pattern).matcher(bare);
        DUE.is("no " + pattern + (m.find() ? ": " + m.group() : ""), m.reset().find() ? 1 : 0, 0);
    }

    private static void words(String text, String bare) {
        for (int i = 0; i < text.length(); i++) {
            if (text.charAt(i) > 127) DUE.is("sign at " + i, text.charAt(i), 127);
        }
        String[] never = {"\\b(throw|throws|try|catch|finally|synchronized|assert|yield|protected|volatile|transient|native)\\b",
            "->", "::", "\\bstatic\\s*\\{", "\\bpackage\\b", "@", "\\bwhile\\s*\\(\\s*true", "for\\s*\\(\\s*;", "Exact\\b",
            "\\b(Thread|Random|Object|Exception|Error|Runtime|Class|Double|Float|Long|Character|Boolean|Byte|Short)\\b(?!\\.(MIN|MAX)_VALUE)",
            "\\bSystem\\.(?!arraycopy)", "\\bArrays\\.(?!fill|copyOf)", "\\bimport\\s+(?!java\\.util\\.Arrays;)", "\\b(goto|var|float|double)\\b",
            "\\bequals\\b|\\bhashCode\\b|\\btoString\\b"};
        for (String pattern : never) none(bare, pattern);
    }

    /** Objects are made in constructors alone, so that calls need no room. */
    private static void objects(String bare) {
        String[] lines = bare.split("\n");
        boolean constructing = false;
        for (String line : lines) {
            if (line.matches("    (    )?(public )?[A-Z][A-Za-z]*\\(.*\\) \\{")) constructing = true;
            else if (line.matches("    (    )?\\}")) constructing = false;
            if (line.matches(".*\\bnew\\b.*")) DUE.is("made in a constructor: " + line.trim(), constructing ? 1 : 0, 1);
        }
    }

    private static void methods(String bare) {
        String[] lines = bare.split("\n");
        int start = 0;
        for (int i = 0; i < lines.length; i++) {
            if (lines[i].matches("    (    )?[A-Za-z][^=;]*\\(.*\\) \\{")) {
                start = i;
                DUE.is("seven parameters: " + lines[i].trim(), lines[i].split(",").length <= 7 ? 1 : 0, 1);
            }
            if (lines[i].matches("    (    )?\\}")) DUE.is("short: " + lines[start].trim(), i - start < 60 || start == 0 ? 1 : 0, 1);
        }
    }
}
