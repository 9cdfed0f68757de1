/** Promises 32 and 33: feed, read. */
public final class TextTest {
    private static final Due DUE = new Due("TextTest");

    public static void main(String[] args) {
        feed();
        faults();
        clauses();
        refusedClauses();
        many();
        DUE.end();
    }

    private static void feed() {
        OrbitDesigns x = new OrbitDesigns();
        DUE.is("feed(-1)", x.feed(-1), -2);
        DUE.is("feed(128)", x.feed(128), -2);
        DUE.is("feed(0)", x.feed(0), 1);
        DUE.is("feed(127)", x.feed(127), 2);
        for (int i = 3; i <= 100; i++) DUE.is("feed", x.feed('n'), i);
        DUE.is("feed of 100", x.feed('n'), -4);
        DUE.is("bad feed of 100", x.feed(128), -2);
        DUE.is("100 stay", x.count(4), 100);
        DUE.is("read()", x.read(), -10);
        DUE.is("empty then", x.count(4), 0);
        DUE.is("feed again", x.feed('n'), 1);
    }

    private static void fault(String text, int place) {
        OrbitDesigns x = Due.of(6);
        DUE.is("read of '" + text + "'", Due.read(x, text), -10 - place);
        DUE.is("nothing done", x.count(0), 6);
        DUE.is("nothing done", x.count(1) + x.count(2), 0);
        DUE.is("the text is empty", x.count(4), 0);
    }

    private static void faults() {
        fault("", 0);
        fault(";", 0);
        fault("x", 0);
        fault("N5", 0);
        fault(" n5", 0);
        fault("n", 1);
        fault("n;", 1);
        fault("nn", 1);
        fault("n55", 2);
        fault("n5 ", 2);
        fault("n5;", 3);
        fault("n5;;", 3);
        fault("g", 1);
        fault("g0", 2);
        fault("g0;", 2);
        fault("g011", 3);
        fault("k3", 2);
        fault("k301", 3);
        fault("h", 1);
        fault("h12", 3);
        fault("h12;n3", 3);
        fault("h123456789", 9);
        fault("h12345678n", 9);
        fault("b", 1);
        fault("b;", 1);
        fault("b012345678", 9);
        fault("n4;g0", 5);
        fault("n4;g01;", 7);
        fault("n4;/", 3);
        fault("n:", 1);
        fault("n/", 1);
        StringBuilder thirteen = new StringBuilder("n4");
        for (int i = 1; i < 13; i++) thirteen.append(";n4");
        fault(thirteen.toString(), 12 * 3 - 1);
        fault(thirteen.substring(0, 12 * 3), 12 * 3 - 1);
        fault(thirteen.substring(0, 12 * 3 - 1) + "5", 12 * 3 - 1);
    }

    private static void clauses() {
        OrbitDesigns x = new OrbitDesigns();
        DUE.is("n8", Due.read(x, "n8"), 1);
        DUE.is("n", x.count(0), 8);
        DUE.is("g28;g41", Due.read(x, "g23;g41"), 2);
        DUE.is("kind", x.wayOf(0, 0), 2);
        DUE.is("figure", x.wayOf(0, 1), 3);
        DUE.is("kind", x.wayOf(1, 0), 4);
        DUE.is("h", Due.read(x, "h23456718"), 1);
        DUE.is("by hand", x.wayOf(2, 0), 5);
        DUE.is("takes", x.takes(2, 6), 0);
        x.points(4);
        DUE.is("k21", Due.read(x, "k25"), 1);
        DUE.is("block", x.blockOf(0), 12);
        DUE.is("one", x.count(2), 1);
        DUE.is("b01;b10;b01", Due.read(x, "b01;b10;b01"), 3);
        DUE.is("two", x.count(2), 2);
        DUE.is("the first", x.blockOf(0), 3);
        DUE.is("twice told points", Due.read(x, "b02020202"), 1);
        DUE.is("the second", x.blockOf(1), 5);
        DUE.is("all kinds", Due.read(x, "n4;g01;h2143;k20;b13"), 5);
        DUE.is("in order", x.count(2), 5);
        DUE.is("h with a zero ahead", Due.read(x, "n3;h0231"), 2);
        DUE.is("undo is not touched", x.undo(), -3);
    }

    private static void refusedClauses() {
        OrbitDesigns x = new OrbitDesigns();
        DUE.is("n2", Due.read(x, "n2"), 0);
        DUE.is("n9", Due.read(x, "n9"), 0);
        DUE.is("n0;n3", Due.read(x, "n0;n3"), 1);
        x.points(6);
        DUE.is("g50", Due.read(x, "g50;g91"), 0);
        DUE.is("g22", Due.read(x, "g22;g20"), 0);
        DUE.is("full", Due.read(x, "g00;g01;g02;g03;g04;h123456"), 4);
        DUE.is("four", x.count(1), 4);
        x.points(6);
        DUE.is("h", Due.read(x, "h12345;h1234567;h123455;h000"), 0);
        DUE.is("k00", Due.read(x, "k00;k70;k61"), 0);
        DUE.is("k60", Due.read(x, "k60;k11"), 2);
        DUE.is("eight digits, two are no points", Due.read(x, "b01234567"), 0);
        DUE.is("no point", Due.read(x, "b6;b7;b16"), 0);
        DUE.is("not of K", Due.read(x, "b01;b012"), 0);
        DUE.is("of K", Due.read(x, "b0;b00"), 2);
        DUE.is("as it was", x.count(2), 1);
        DUE.is("points told ahead count", Due.read(x, "b57;n8;b57"), 2);
        DUE.is("block", x.blockOf(0), 160);
    }

    private static void many() {
        OrbitDesigns x = new OrbitDesigns();
        StringBuilder twelve = new StringBuilder("n6");
        for (int i = 1; i < 12; i++) twelve.append(";b0").append(i % 6);
        DUE.is("twelve", Due.read(x, twelve.toString()), 11);
        DUE.is("1 to 5, twice", x.count(2), 0);
        StringBuilder full = new StringBuilder();
        for (int i = 0; i < 9; i++) full.append("h12345678;");
        DUE.is("90 signs and eight", Due.read(x, full + "b01234567;"), -10 - 100);
        x.points(8);
        DUE.is("99 signs", Due.read(x, full + "b01234567"), 4);
        DUE.is("a letter behind a digit", Due.read(x, "n3;b0b"), -10 - 5);
    }
}
