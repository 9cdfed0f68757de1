import java.lang.reflect.Constructor;
import java.lang.reflect.Field;
import java.lang.reflect.Method;
import java.lang.reflect.Modifier;
import java.util.Set;
import java.util.TreeSet;
import java.util.regex.Matcher;
import java.util.regex.Pattern;

/** 'The public face' as the document writes it: each constant with its number, each call with its parameters. */
public final class FaceTest {
    private static final Due DUE = new Due("FaceTest");
    private static final Pattern CONSTANTS = Pattern.compile("public static final (int|long) ([^;]*);");
    private static final Pattern CALL = Pattern.compile("public (?:(int|long) )?(\\w+)\\(([^)]*)\\);");

    public static void main(String[] args) throws IllegalAccessException {
        if (!Doc.isThere()) {
            System.out.println("FaceTest: ../shared/DOC.md is not there to be looked at");
            return;
        }
        String face = Doc.face();
        DUE.is("public final class OrbitDesigns", face.contains("public final class OrbitDesigns {") ? 1 : 0, 1);
        same("constants", foundConstants(), toldConstants(face));
        same("calls", foundCalls(), toldCalls(face));
        DUE.end();
    }

    private static void same(String what, Set<String> found, Set<String> told) {
        DUE.is("how many " + what, found.size(), told.size());
        for (String one : told) DUE.is("there is " + one, found.contains(one) ? 1 : 0, 1);
        for (String one : found) DUE.is("told is " + one, told.contains(one) ? 1 : 0, 1);
    }

    private static Set<String> toldConstants(String face) {
        Set<String> told = new TreeSet<>();
        Matcher line = CONSTANTS.matcher(face);
        while (line.find()) {
            for (String one : line.group(2).split(",")) {
                String[] parts = one.trim().split(" = ");
                String value = parts[1].equals("Long.MIN_VALUE") ? "" + Long.MIN_VALUE : parts[1];
                told.add(line.group(1) + " " + parts[0] + " " + value);
            }
        }
        return told;
    }

    private static Set<String> foundConstants() throws IllegalAccessException {
        Set<String> found = new TreeSet<>();
        for (Field f : OrbitDesigns.class.getDeclaredFields()) {
            if (Modifier.isPrivate(f.getModifiers())) continue;
            DUE.is("modifiers of " + f.getName(), f.getModifiers(), Modifier.PUBLIC | Modifier.STATIC | Modifier.FINAL);
            found.add(f.getType() + " " + f.getName() + " " + f.get(null));
        }
        return found;
    }

    /** The document's parameters without their names. */
    private static Set<String> toldCalls(String face) {
        Set<String> told = new TreeSet<>();
        Matcher line = CALL.matcher(face);
        while (line.find()) {
            String type = line.group(1) == null ? "new" : line.group(1);
            told.add(type + " " + line.group(2) + "(" + line.group(3).replaceAll(" \\w+(?=,|$)", "") + ")");
        }
        return told;
    }

    private static Set<String> foundCalls() {
        Set<String> found = new TreeSet<>();
        for (Constructor<?> c : OrbitDesigns.class.getDeclaredConstructors()) {
            if (!Modifier.isPrivate(c.getModifiers())) found.add("new " + c.getName() + types(c.getParameterTypes()));
        }
        for (Method m : OrbitDesigns.class.getDeclaredMethods()) {
            if (m.isSynthetic() || Modifier.isPrivate(m.getModifiers())) continue;
            DUE.is("modifiers of " + m.getName(), m.getModifiers(), Modifier.PUBLIC);
            found.add(m.getReturnType() + " " + m.getName() + types(m.getParameterTypes()));
        }
        return found;
    }

    private static String types(Class<?>[] types) {
        StringBuilder s = new StringBuilder();
        for (Class<?> type : types) s.append(s.length() == 0 ? "" : ", ").append(type);
        return "(" + s + ")";
    }
}
