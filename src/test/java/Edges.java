import java.lang.reflect.InvocationTargetException;
import java.lang.reflect.Method;
import java.lang.reflect.Modifier;
import java.util.ArrayList;
import java.util.Comparator;
import java.util.List;
import java.util.Map;

/**
 * What the tests of the document's boundary cases share. Each of them is a static method without
 * parameters, begins with says(): the section and the words of it that it holds, and compares answers.
 */
abstract class Edges {
    /** A call, and what it answers. */
    interface Call {
        long on(OrbitDesigns x);
    }

    /** Makes the same object each time that it is asked. */
    interface Maker {
        OrbitDesigns make();
    }

    static final int NONE = -1, BAD = -2, STATE = -3, FULL = -4, ABSENT = -5;
    static final int NOTHING = -11, CAST = -12, PLACE = -13, SIZE = -14;
    static final long NO = Long.MIN_VALUE;
    static final int MIN = Integer.MIN_VALUE, MAX = Integer.MAX_VALUE;

    /** Without the document beside the project the answers are looked at all the same. */
    private static final Map<String, String> DOC = Doc.isThere() ? Doc.sections() : null;
    private static String said = null;
    private static int asked = 0;
    private static int wrong = 0;

    /** Runs all tests of a class, so that none can be forgotten. */
    static void runAll(Class<?> tests) {
        List<Method> methods = new ArrayList<>();
        for (Method m : tests.getDeclaredMethods()) {
            boolean isTest = Modifier.isStatic(m.getModifiers()) && m.getParameterCount() == 0 && !m.isSynthetic();
            if (isTest && m.getReturnType() == void.class) methods.add(m);
        }
        methods.sort(Comparator.comparing(Method::getName));
        for (Method m : methods) runOne(m);
        System.out.println(tests.getName() + ": " + methods.size() + " sentences, " + asked + " answers looked at, "
                + wrong + " not as due");
        if (wrong != 0 || methods.isEmpty()) System.exit(1);
    }

    private static void runOne(Method test) {
        said = null;
        int before = asked;
        try {
            test.invoke(null);
        } catch (InvocationTargetException e) {
            miss(test.getName() + " ended with " + e.getCause());
        } catch (IllegalAccessException e) {
            miss(test.getName() + " cannot be run");
        }
        if (said == null) miss(test.getName() + " does not say which sentence it holds");
        if (asked == before) miss(test.getName() + " compares no answer");
    }

    private static void miss(String line) {
        wrong++;
        System.out.println(line);
    }

    /** Which section of the document, and which of its words, the test holds. */
    static void says(String section, String words) {
        said = section + ", '" + words + "': ";
        if (DOC == null) return;
        if (!DOC.containsKey(section) || !DOC.get(section).contains(words)) miss(said + "is not in the document");
    }

    static void is(String call, long got, long want) {
        asked++;
        if (got != want) miss(said + call + " answered " + got + ", due is " + want);
    }

    static void same(String call, String got, String want) {
        asked++;
        if (!got.equals(want)) miss(said + call + "\n  shows   " + got + "\n  due is  " + want);
    }

    /** A call answers so, and all that can be seen is as on an object on which it was not made. */
    static void stays(String call, Maker maker, Call made, long want) {
        OrbitDesigns x = maker.make();
        is(call, made.on(x), want);
        same("after " + call, sight(x), sight(maker.make()));
    }

    /** All that can be seen of an object; what was fed and THE IMAGE are seen by using them up. */
    static String sight(OrbitDesigns x) {
        StringBuilder s = new StringBuilder();
        setup(x, s);
        tapes(x, s);
        s.append(" | undo ").append(x.undo());
        setup(x, s);
        s.append(" | read ").append(x.read());
        setup(x, s);
        return s.toString();
    }

    static String setup(OrbitDesigns x) {
        StringBuilder s = new StringBuilder();
        setup(x, s);
        return s.toString();
    }

    private static void setup(OrbitDesigns x, StringBuilder s) {
        for (int what = 0; what < 5; what++) s.append(' ').append(x.count(what));
        for (int w = 0; w < x.count(1); w++) {
            s.append(" way ").append(x.wayOf(w, 0)).append(' ').append(x.wayOf(w, 1)).append(' ').append(digits(x, w));
        }
        s.append(" K ").append(x.blocks(0)).append(':');
        for (int i = 0; i < x.count(2); i++) s.append(' ').append(x.blockOf(i));
        for (int d = 0; d < x.count(3); d++) {
            s.append(" design ").append(x.design(d, 0)).append(' ').append(x.design(d, 1)).append(' ').append(x.selves(d));
        }
    }

    static String tapes(OrbitDesigns x) {
        StringBuilder s = new StringBuilder();
        tapes(x, s);
        return s.toString();
    }

    private static void tapes(OrbitDesigns x, StringBuilder s) {
        for (int t = 0; t < 6; t++) {
            s.append(" tape");
            for (int i = 0; i < 60 && x.peek(t, i) != NO; i++) s.append(' ').append(x.peek(t, i));
        }
    }

    /** Where a WAY takes all POINTS, each 1 more, as hand() is told it. */
    static int digits(OrbitDesigns x, int way) {
        int digits = 0;
        for (int p = 0; p < x.count(0); p++) digits = digits * 10 + x.takes(way, p) + 1;
        return digits;
    }

    static OrbitDesigns of(int n) {
        OrbitDesigns x = new OrbitDesigns();
        x.points(n);
        return x;
    }

    /** n POINTS, and p to p + 1. */
    static OrbitDesigns ring(int n) {
        OrbitDesigns x = of(n);
        x.way(0, 1);
        return x;
    }

    static OrbitDesigns byHand(int n, int... hands) {
        OrbitDesigns x = of(n);
        for (int digits : hands) x.hand(digits);
        return x;
    }

    /** n POINTS, K and these BLOCKS. */
    static OrbitDesigns blocks(int n, int k, int... sets) {
        OrbitDesigns x = of(n);
        x.choose(k, 0);
        for (int set : sets) x.block(set);
        return x;
    }

    /** The seven BLOCKS of three of seven POINTS of which any two have one in common. */
    static OrbitDesigns fano() {
        return blocks(7, 3, 11, 22, 44, 49, 69, 88, 98);
    }

    /** n POINTS, and as many WAYS as can be. */
    static OrbitDesigns fourWays(int n) {
        OrbitDesigns x = of(n);
        x.way(0, 1);
        x.way(1, 2);
        x.way(3, 0);
        x.way(4, 1);
        return x;
    }

    /** Something of all that an object can hold, and THE IMAGE another than what is. */
    static OrbitDesigns rich() {
        OrbitDesigns x = of(6);
        x.way(0, 1);
        x.hand(165432);
        x.choose(3, 1);
        x.keep();
        x.image();
        x.way(2, 5);
        x.block(21);
        x.keep();
        for (int sort = 0; sort < 5; sort++) {
            x.tape(sort, sort, 3);
            x.item(sort, 1, 6 + sort);
        }
        feed(x, "n5;h21345;b01");
        return x;
    }

    static OrbitDesigns rich8() {
        OrbitDesigns x = rich();
        x.points(8);
        x.way(0, 1);
        x.block(3);
        x.keep();
        return x;
    }

    static void feed(OrbitDesigns x, String text) {
        for (int i = 0; i < text.length(); i++) x.feed(text.charAt(i));
    }

    static int read(OrbitDesigns x, String text) {
        feed(x, text);
        return x.read();
    }

    /** The BLOCKS, the least first, as a text. */
    static String row(OrbitDesigns x) {
        StringBuilder s = new StringBuilder();
        for (int i = 0; i < x.count(2); i++) s.append(i == 0 ? "" : " ").append(x.blockOf(i));
        return s.toString();
    }

    /** The first items of a TAPE, as a text. */
    static String items(OrbitDesigns x, int tape, int many) {
        StringBuilder s = new StringBuilder();
        for (int i = 0; i < many; i++) s.append(i == 0 ? "" : " ").append(x.peek(tape, i));
        return s.toString();
    }
}
