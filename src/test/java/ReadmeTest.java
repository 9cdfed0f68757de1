import java.io.ByteArrayOutputStream;
import java.io.IOException;
import java.io.PrintStream;
import java.lang.reflect.Method;
import java.lang.reflect.Modifier;
import java.net.URL;
import java.net.URLClassLoader;
import java.nio.file.Files;
import java.nio.file.Path;
import java.util.Comparator;
import java.util.List;
import java.util.regex.Matcher;
import java.util.regex.Pattern;
import java.util.stream.Stream;
import javax.tools.JavaCompiler;
import javax.tools.ToolProvider;

/** What README.md tells: its program prints what it says, its calls answer so, and all that it names is there. */
public final class ReadmeTest {
    private static final Due DUE = new Due("ReadmeTest");
    private static final Pattern BLOCK = Pattern.compile("```java\n(.*?)```", Pattern.DOTALL);
    private static final Pattern PROGRAM = Pattern.compile("public final class (\\w+)");
    private static final Pattern PRINTED = Pattern.compile("```text\n(.*?)```", Pattern.DOTALL);
    private static final Pattern LINE = Pattern.compile("(x\\.\\w+\\(.*\\)); *// (-?\\d+)(?:: .*)?");
    private static final Pattern NAMED = Pattern.compile("`([^`\n]+)`");
    private static final Pattern RUN = Pattern.compile("java -cp build (\\w+)");

    private static int examples = 0;

    public static void main(String[] args) throws Exception {
        String page = Files.readString(Path.of("README.md"));
        callsAreNamed(page);
        namesAreThere(page);
        JavaCompiler compiler = ToolProvider.getSystemJavaCompiler();
        if (compiler == null) System.out.println("ReadmeTest: without a compiler the examples are not run");
        else examples(page, compiler);
        DUE.end();
    }

    private static void callsAreNamed(String page) {
        for (Method m : OrbitDesigns.class.getDeclaredMethods()) {
            if (!Modifier.isPublic(m.getModifiers())) continue;
            DUE.is(m.getName() + " stands among the calls", page.contains("`" + m.getName() + "(") ? 1 : 0, 1);
        }
    }

    /** Files, tests and classes inside, by the look of their names. */
    private static void namesAreThere(String page) throws IOException {
        String source = Files.readString(Path.of("src/main/java/OrbitDesigns.java"));
        Matcher named = NAMED.matcher(page.replaceAll("(?s)```.*?```", ""));
        while (named.find()) {
            String name = named.group(1);
            if (name.matches("(src|\\.ci|\\.\\./shared)/[\\w./]*")) isThere(name, Path.of(name));
            else if (name.matches("[A-Z]\\w*Test|Model")) isThere(name, Path.of("src/test/java", name + ".java"));
            else if (name.matches("[A-Z][a-z]+")) DUE.is("class " + name, source.contains(" class " + name + " {") ? 1 : 0, 1);
        }
        Matcher run = RUN.matcher(page);
        while (run.find()) {
            String name = run.group(1);
            if (!page.contains("public final class " + name)) isThere(name, Path.of("src/test/java", name + ".java"));
        }
        allTestsAreNamed(page);
    }

    private static void isThere(String name, Path path) {
        DUE.is(name + " is there", Files.exists(path) ? 1 : 0, 1);
    }

    private static void allTestsAreNamed(String page) throws IOException {
        try (Stream<Path> files = Files.list(Path.of("src/test/java"))) {
            for (Path file : files.toList()) {
                String name = file.getFileName().toString().replace(".java", "");
                if (!name.endsWith("Test") || name.endsWith("EdgesTest")) continue;
                DUE.is(name + " is told of", page.contains("`" + name + "`") ? 1 : 0, 1);
            }
        }
    }

    private static void examples(String page, JavaCompiler compiler) throws Exception {
        Path room = Files.createTempDirectory("readme");
        try {
            Matcher block = BLOCK.matcher(page);
            while (block.find()) {
                Matcher program = PROGRAM.matcher(block.group(1));
                if (program.find()) printsSo(program.group(1), block.group(1), page.substring(block.end()), room, compiler);
                else answersSo(block.group(1), room, compiler);
            }
            DUE.is("examples of each sort", examples, 3);
        } finally {
            try (Stream<Path> files = Files.walk(room)) {
                for (Path file : files.sorted(Comparator.reverseOrder()).toList()) Files.delete(file);
            }
        }
    }

    private static void printsSo(String name, String program, String behind, Path room, JavaCompiler compiler) throws Exception {
        examples++;
        Matcher told = PRINTED.matcher(behind);
        DUE.is("it is told what " + name + " prints", told.find() ? 1 : 0, 1);
        String printed = run(name, program, room, compiler);
        DUE.is(name + " printed\n" + printed, printed.equals(told.group(1)) ? 1 : 0, 1);
    }

    /** Each call's answer is printed, a line each, and compared with what stands behind the call. */
    private static void answersSo(String block, Path room, JavaCompiler compiler) throws Exception {
        examples++;
        String name = "Example" + examples;
        StringBuilder program = new StringBuilder("public final class " + name + " { public static void main(String[] a) {\n");
        StringBuilder due = new StringBuilder();
        for (String line : block.split("\n")) {
            Matcher call = LINE.matcher(line);
            if (!call.matches()) {
                DUE.is("an answer can be read from: " + line, line.startsWith("x.") || line.contains("//") ? 0 : 1, 1);
                program.append(line).append('\n');
                continue;
            }
            String told = call.group(1).replace("\"", "'");
            program.append("System.out.print(\"").append(told).append(" \" + ").append(call.group(1)).append(" + '\\n');\n");
            due.append(told).append(' ').append(call.group(2)).append('\n');
        }
        String[] printed = run(name, program + "} }\n", room, compiler).split("\n");
        String[] told = due.toString().split("\n");
        DUE.is("answers of " + name, printed.length, told.length);
        for (int i = 0; i < told.length && i < printed.length; i++) {
            DUE.is(printed[i] + " (told is " + told[i] + ")", printed[i].equals(told[i]) ? 1 : 0, 1);
        }
    }

    private static String run(String name, String program, Path room, JavaCompiler compiler) throws Exception {
        Path file = Files.writeString(room.resolve(name + ".java"), program);
        String classes = Path.of(OrbitDesigns.class.getProtectionDomain().getCodeSource().getLocation().toURI()).toString();
        List<String> told = List.of("--release", "17", "-cp", classes, "-d", room.toString(), file.toString());
        DUE.is("compiling " + name, compiler.run(null, null, null, told.toArray(new String[0])), 0);
        ByteArrayOutputStream printed = new ByteArrayOutputStream();
        PrintStream before = System.out;
        try (URLClassLoader loader = new URLClassLoader(new URL[] {room.toUri().toURL()})) {
            System.setOut(new PrintStream(printed, true));
            loader.loadClass(name).getMethod("main", String[].class).invoke(null, (Object) new String[0]);
        } finally {
            System.setOut(before);
        }
        return printed.toString();
    }
}
