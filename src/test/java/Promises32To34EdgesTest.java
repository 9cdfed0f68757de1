/** The boundary cases of promises 32 to 34: feed, read, judge. */
public final class Promises32To34EdgesTest extends Edges {
    public static void main(String[] args) {
        runAll(Promises32To34EdgesTest.class);
    }

    /** Of six POINTS, and THE TEXT has 100 bytes. */
    private static OrbitDesigns fullText() {
        OrbitDesigns x = of(6);
        for (int i = 0; i < 9; i++) feed(x, "h12345678;");
        feed(x, "h1234567;n");
        return x;
    }

    static void p32FeedTheLeastAndTheGreatestSign() {
        says("Promise 32", "A sign (0 .. 127) comes behind THE TEXT's: how many it has.");
        OrbitDesigns x = new OrbitDesigns();
        is("feed(0)", x.feed(0), 1);
        is("feed(127)", x.feed(127), 2);
        for (int i = 3; i <= 100; i++) is("feed, " + i, x.feed('x'), i);
        is("bytes", x.count(4), 100);
        OrbitDesigns y = new OrbitDesigns();
        feed(y, "n");
        is("behind those that are there", y.feed('7'), 2);
        is("n7 is read", y.read(), 1);
        is("n", y.count(0), 7);
        is("from 1 again", y.feed('n'), 1);
    }

    static void p32Bad() {
        says("Promise 32", "BAD;");
        int[] bad = {-1, 128, 129, 255, 256 + 'n', MIN, MAX};
        for (int sign : bad) {
            stays("feed(" + sign + ")", Edges::rich, x -> x.feed(sign), BAD);
            is("ahead of FULL", fullText().feed(sign), BAD);
        }
    }

    static void p32Full() {
        says("Promise 32", "FULL.");
        int[] signs = {0, '5', ';', 127};
        for (int sign : signs) stays("feed(" + sign + ") of 100", Promises32To34EdgesTest::fullText, x -> x.feed(sign), FULL);
        OrbitDesigns x = fullText();
        x.feed('5');
        is("the refused one does not end the CLAUSE", x.read(), -10 - 100);
        is("it is empty then", x.feed('n'), 1);
    }

    static void p33TextIsEmptyThen() {
        says("Promise 33", "THE TEXT, which is empty then (by a FAULT, too), is a set-up:");
        String[] texts = {"n5", "n2", "x", "n", "n5;", "n5;x", "", "b01;b02;b03"};
        for (String text : texts) {
            OrbitDesigns x = of(6);
            read(x, text);
            is("bytes behind '" + text + "'", x.count(4), 0);
            is("read() again behind '" + text + "'", x.read(), -10);
            is("another behind '" + text + "'", read(x, "n7"), 1);
        }
        OrbitDesigns x = fullText();
        is("of 100", x.read(), -10 - 100);
        is("none then", x.count(4), 0);
    }

    static void p33HowManyWereDone() {
        says("Promise 33", "how many CLAUSES were done;");
        is("one", read(of(6), "n5"), 1);
        is("one that is refused", read(of(6), "n2"), 0);
        is("two of three", read(of(6), "n2;n3;n8"), 2);
        is("all twelve", read(of(6), "n3;n4;n5;n6;n7;n8;n3;n4;n5;n6;n7;n8"), 12);
        is("none of twelve", read(of(6), "n0;n1;n2;n9;n0;n1;n2;n9;n0;n1;n2;n9"), 0);
        is("the last of twelve alone", read(of(6), "n0;n1;n2;n9;n0;n1;n2;n9;n0;n1;n2;n3"), 1);
        OrbitDesigns x = of(6);
        is("twelve and the ; ahead of a thirteenth", read(x, "b0;b0;b0;b0;b0;b0;b0;b0;b0;b0;b0;n5;b0"), -10 - 35);
        is("nothing was done", x.count(2), 0);
        is("six of eleven", read(of(8), "h12345678;h12345678;h12345678;h12345678;b01;b23;b01234567;b01234567;"
                + "b01234567;b01234567;b0123456"), 6);
    }

    static void p33LessTheFault() {
        says("Promise 33", "-10 less the FAULT.");
        is("FAULT at 0", read(of(6), "x"), -10);
        is("FAULT at the end of nothing", of(6).read(), -10);
        is("FAULT at 1", read(of(6), "nx"), -11);
        is("FAULT at the end", read(of(6), "n"), -11);
        is("FAULT at 2", read(of(6), "n5x"), -12);
        is("FAULT at 99", read(of(6), "h12345678;h12345678;h12345678;h12345678;h12345678;h12345678;h12345678;h12345678;"
                + "h12345678;h12345678x"), -10 - 99);
        is("FAULT at 100", fullText().read(), -10 - 100);
        String[] faults = {"", "x", "n", "n5x", "n3;", "n3;x", "n3;b01;k1", "n3;h12"};
        for (String text : faults) {
            OrbitDesigns x = rich();
            x.read();
            OrbitDesigns y = rich();
            y.read();
            read(x, text);
            same("nothing of '" + text + "' is done", sight(x), sight(y));
        }
    }

    static void p34Judged() {
        says("Promise 34", "JUDGED from place i of a TAPE on.");
        OrbitDesigns x = blocks(5, 2, 3, 12, 24);
        x.tape(5, 1, 5);
        int[] items = {3, 3, 12, 24, 24};
        for (int i = 0; i < 5; i++) x.item(5, i, items[i]);
        is("from 1", x.judge(5, 1), ABSENT);
        is("from 0, the second", x.judge(5, 0), 1);
        is("from 2, the first", x.judge(5, 2), 0);
        is("from the last place", x.judge(5, 4), 0);
        is("from the end", x.judge(5, 5), 100);
        is("beyond the end", x.judge(5, 6), 100);
        is("from max", x.judge(5, MAX), 100);
        is("from -1", x.judge(5, -1), 100);
        is("from min", x.judge(5, MIN), 100);
        is("just as many as there are places", judged(3, 3, 12, 24), ABSENT);
        is("one place too few", judged(2, 3, 12), 102);
        stays("asks alone", Edges::rich, r -> r.judge(1, 0), 0);
    }

    /** BLOCKS 3, 12, 24 by a row of so many items. */
    private static int judged(int many, int... items) {
        OrbitDesigns x = blocks(5, 2, 3, 12, 24);
        x.tape(0, 1, many);
        for (int i = 0; i < items.length; i++) x.item(0, i, items[i]);
        return x.judge(0, 0);
    }

    static void p34None() {
        says("Promise 34", "NONE: tape;");
        int[] none = {-1, 6, 7, MIN, MAX};
        for (int tape : none) {
            stays("judge(" + tape + ", 0)", Edges::rich, x -> x.judge(tape, 0), NONE);
            is("without BLOCKS", of(5).judge(tape, -1), NONE);
        }
        is("TAPE 5", rich().judge(5, 0), 100);
    }

    static void p34Cast() {
        says("Promise 34", "CAST: it is no row of shorts.");
        int[] others = {0, 2, 3, 4};
        for (int sort : others) {
            stays("judge of sort " + sort, Edges::rich, x -> x.judge(sort, 0), CAST);
            is("place below 0", rich().judge(sort, -1), CAST);
            is("place beyond", rich().judge(sort, 99), CAST);
            OrbitDesigns x = blocks(5, 2, 3);
            x.tape(0, sort, 0);
            is("a row of no items", x.judge(0, 0), CAST);
        }
        is("shorts", rich().judge(1, 1), 1);
        is("nothing is no other sort", rich().judge(5, 1), 100);
    }
}
