/** The boundary cases of promises 35 to 41: image, undo, count, tape, item, peek, shift. */
public final class Promises35To41EdgesTest extends Edges {
    public static void main(String[] args) {
        runAll(Promises35To41EdgesTest.class);
    }

    private static final int[] NO_TAPE = {-1, 6, 7, MIN, MAX};

    static void p35ImageAnswersHowMany() {
        says("Promise 35", "THE IMAGE is taken: how many BLOCKS.");
        is("none", new OrbitDesigns().image(), 0);
        is("one", blocks(8, 8, 255).image(), 1);
        is("seven", rich().image(), 7);
        OrbitDesigns x = byHand(8, 21345678, 23456781);
        x.choose(4, 1);
        is("70", x.image(), 70);
        x.choose(2, 0);
        is("another in its place", x.image(), 0);
        x.choose(4, 1);
        is("it is the one that is taken back", x.undo(), 0);
        is("its K", x.blocks(0), 2);
        OrbitDesigns y = rich();
        String was = setup(y) + tapes(y);
        is("image()", y.image(), 7);
        same("all else is as it was", setup(y) + tapes(y), was);
        is("and it is THE IMAGE now", y.undo(), 7);
        same("so undo() changes nothing", setup(y) + tapes(y), was);
    }

    static void p36AllIsAsTheImage() {
        says("Promise 36", "All is as THE IMAGE: how many BLOCKS.");
        OrbitDesigns x = rich();
        x.read();
        x.image();
        String was = setup(x);
        int many = x.count(2);
        x.points(8);
        for (int w = 0; w < 4; w++) x.way(0, w);
        x.choose(4, MAX);
        for (int d = 0; d < 4; d++) x.keep();
        is("undo() of fewer", x.undo(), many);
        same("all as it was", setup(x), was);
        x.points(3);
        is("undo() of more", x.undo(), many);
        same("all as it was", setup(x), was);
        is("undo() of nothing changed", x.undo(), many);
        same("all as it was", setup(x), was);
        OrbitDesigns y = new OrbitDesigns();
        y.image();
        y.way(0, 1);
        y.block(3);
        y.keep();
        is("undo() to nothing", y.undo(), 0);
        is("all gone", y.count(1) + y.count(2) + y.count(3), 0);
    }

    static void p36ImageIsNotChangedByWhatComes() {
        says("Promise 36", "All is as THE IMAGE");
        OrbitDesigns x = blocks(6, 3, 7, 56);
        x.way(0, 1);
        x.way(1, 0);
        x.keep();
        x.image();
        x.drop(0);
        x.hand(654321);
        x.block(7);
        x.turned();
        x.undo();
        is("KIND of 0", x.wayOf(0, 0), 0);
        is("KIND of 1", x.wayOf(1, 0), 1);
        is("where 1 takes 0", x.takes(1, 0), 0);
        same("BLOCKS", row(x), "7 56");
        x.drop(1);
        x.block(11);
        x.keep();
        is("undo() once more", x.undo(), 2);
        is("WAYS", x.count(1), 2);
        same("BLOCKS", row(x), "7 56");
        is("DESIGNS", x.count(3), 1);
        is("THE GROUP", x.order(), 12);
    }

    static void p36StateWithoutImage() {
        says("Promise 36", "STATE: there is none.");
        stays("of a new object", OrbitDesigns::new, OrbitDesigns::undo, STATE);
        stays("with BLOCKS", () -> blocks(8, 8, 255), OrbitDesigns::undo, STATE);
        OrbitDesigns x = of(5);
        x.image();
        is("there is one", x.undo(), 0);
        is("and still", x.undo(), 0);
    }

    static void p37Counts() {
        says("Promise 37", "How many: 0 n, 1 WAYS, 2 BLOCKS, 3 DESIGNS, 4 bytes of THE TEXT.");
        int[] rich = {6, 3, 7, 2, 13};
        int[] fresh = {5, 0, 0, 0, 0};
        for (int what = 0; what < 5; what++) {
            int w = what;
            stays("count(" + w + ")", Edges::rich, x -> x.count(w), rich[w]);
            stays("count(" + w + ") at first", OrbitDesigns::new, x -> x.count(w), fresh[w]);
        }
        OrbitDesigns x = fourWays(8);
        x.choose(8, 1);
        for (int d = 0; d < 4; d++) x.keep();
        for (int i = 0; i < 100; i++) x.feed('n');
        int[] most = {8, 4, 1, 4, 100};
        for (int what = 0; what < 5; what++) is("count(" + what + ") of the most", x.count(what), most[what]);
    }

    static void p37Bad() {
        says("Promise 37", "BAD.");
        int[] whats = {-1, 5, 6, MIN, MAX};
        for (int what : whats) stays("count(" + what + ")", Edges::rich, x -> x.count(what), BAD);
    }

    static void p38ARowAllZero() {
        says("Promise 38", "A TAPE becomes a row of n (0 .. 60) of a sort, all 0,");
        for (int sort = 0; sort < 5; sort++) {
            OrbitDesigns x = new OrbitDesigns();
            is("60 of sort " + sort, x.tape(sort, sort, 60), 1);
            is("the first", x.peek(sort, 0), 0);
            is("the last", x.peek(sort, 59), 0);
            is("none behind it", x.peek(sort, 60), NO);
            x.item(sort, 0, 1);
            x.item(sort, 59, 1);
            is("60 anew", x.tape(sort, sort, 60), 1);
            is("the first is 0 again", x.peek(sort, 0), 0);
            is("the last is 0 again", x.peek(sort, 59), 0);
            x.item(sort, 0, 1);
            is("a row of none", x.tape(sort, sort, 0), 1);
            is("no first", x.peek(sort, 0), NO);
            is("something is there, but no place", x.item(sort, 0, 1), PLACE);
            is("one", x.tape(sort, (sort + 1) % 5, 1), 1);
            is("it is 0", x.peek(sort, 0), 0);
            is("no second", x.peek(sort, 1), NO);
            is("the other TAPES hold nothing", x.item((sort + 1) % 6, 0, 1), NOTHING);
        }
        is("TAPE 5", new OrbitDesigns().tape(5, 0, 60), 1);
    }

    static void p38HoldsNothing() {
        says("Promise 38", "or holds nothing (sort -1: n does not matter): 1.");
        int[] any = {0, 1, 60, 61, -1, MIN, MAX};
        for (int n : any) {
            OrbitDesigns x = rich();
            is("tape(0, -1, " + n + ")", x.tape(0, -1, n), 1);
            is("nothing there", x.item(0, 0, 1), NOTHING);
            is("nothing to peek at", x.peek(0, 0), NO);
            is("the others stay", x.peek(1, 1), 7);
            is("nothing anew", x.tape(0, -1, n), 1);
            is("a row again", x.tape(0, 2, 3), 1);
            is("all 0", x.peek(0, 1), 0);
        }
    }

    static void p38None() {
        says("Promise 38", "NONE: tape;");
        for (int tape : NO_TAPE) {
            stays("tape(" + tape + ", 0, 1)", Edges::rich, x -> x.tape(tape, 0, 1), NONE);
            is("ahead of BAD", rich().tape(tape, 5, 1), NONE);
            is("ahead of SIZE", rich().tape(tape, 0, -1), NONE);
            is("nothing, too", rich().tape(tape, -1, 0), NONE);
        }
    }

    static void p38Bad() {
        says("Promise 38", "BAD: sort, n above 60;");
        int[] sorts = {-2, 5, 6, MIN, MAX};
        for (int sort : sorts) {
            stays("tape(0, " + sort + ", 1)", Edges::rich, x -> x.tape(0, sort, 1), BAD);
            is("ahead of SIZE", rich().tape(0, sort, -1), BAD);
        }
        int[] sizes = {61, 62, MAX};
        for (int n : sizes) {
            for (int sort = 0; sort < 5; sort++) {
                int s = sort;
                stays("tape(0, " + s + ", " + n + ")", Edges::rich, x -> x.tape(0, s, n), BAD);
            }
        }
        is("60", rich().tape(0, 0, 60), 1);
    }

    static void p38Size() {
        says("Promise 38", "SIZE.");
        int[] sizes = {-1, -2, -60, MIN};
        for (int n : sizes) {
            for (int sort = 0; sort < 5; sort++) {
                int s = sort;
                stays("tape(0, " + s + ", " + n + ")", Edges::rich, x -> x.tape(0, s, n), SIZE);
            }
        }
        is("0", rich().tape(0, 0, 0), 1);
    }

    private static void put(int sort, long v, long due) {
        OrbitDesigns x = new OrbitDesigns();
        x.tape(0, sort, 60);
        for (int i = 0; i < 60; i += 59) {
            is("item " + i + " of sort " + sort + ", " + v, x.item(0, i, v), 1);
            is("peek(" + i + ") of sort " + sort + ", " + v, x.peek(0, i), due);
        }
        is("the one beside it stays", x.peek(0, 1), 0);
        is("the one ahead of it stays", x.peek(0, 58), 0);
    }

    static void p39LowestBits() {
        says("Promise 39", "Item i of a TAPE becomes v (its lowest bits, as many as an item has;");
        long[][] bytes = {{127, 127}, {128, -128}, {255, -1}, {256, 0}, {-128, -128}, {-129, 127}, {NO, 0}, {Long.MAX_VALUE, -1}};
        for (long[] b : bytes) put(0, b[0], b[1]);
        long[][] shorts = {{32767, 32767}, {32768, -32768}, {65535, -1}, {65536, 0}, {-32768, -32768}, {-32769, 32767}, {NO, 0},
            {Long.MAX_VALUE, -1}};
        for (long[] b : shorts) put(1, b[0], b[1]);
        long[][] ints = {{MAX, MAX}, {MAX + 1L, MIN}, {(1L << 32) - 1, -1}, {1L << 32, 0}, {MIN, MIN}, {MIN - 1L, MAX}, {NO, 0},
            {Long.MAX_VALUE, -1}};
        for (long[] b : ints) put(2, b[0], b[1]);
        long[] longs = {Long.MAX_VALUE, NO, -1, 1L << 32, 0};
        for (long v : longs) put(3, v, v);
    }

    static void p39Booleans() {
        says("Promise 39", "booleans: whether v is not 0): 1.");
        long[] not0 = {1, 2, -1, 256, 1L << 16, 1L << 32, 1L << 63, NO, Long.MAX_VALUE};
        for (long v : not0) put(4, v, 1);
        put(4, 0, 0);
        OrbitDesigns x = new OrbitDesigns();
        x.tape(0, 4, 2);
        x.item(0, 0, 5);
        is("0 again", x.item(0, 0, 0), 1);
        is("is 0", x.peek(0, 0), 0);
    }

    static void p39None() {
        says("Promise 39", "NONE;");
        for (int tape : NO_TAPE) {
            stays("item(" + tape + ", 0, 1)", Edges::rich, x -> x.item(tape, 0, 1), NONE);
            is("ahead of PLACE", rich().item(tape, -1, 1), NONE);
        }
    }

    static void p39Nothing() {
        says("Promise 39", "NOTHING;");
        int[] places = {0, 1, 59};
        for (int i : places) stays("item(5, " + i + ", 1)", Edges::rich, x -> x.item(5, i, 1), NOTHING);
        is("ahead of PLACE: -1", rich().item(5, -1, 1), NOTHING);
        is("ahead of PLACE: max", rich().item(5, MAX, 1), NOTHING);
    }

    static void p39Place() {
        says("Promise 39", "PLACE.");
        int[] places = {-1, 3, 4, 60, MIN, MAX};
        for (int i : places) {
            for (int tape = 0; tape < 5; tape++) {
                int t = tape;
                stays("item(" + t + ", " + i + ", 1) of three", Edges::rich, x -> x.item(t, i, 1), PLACE);
            }
        }
        is("the last", rich().item(0, 2, 1), 1);
        OrbitDesigns x = new OrbitDesigns();
        x.tape(0, 0, 60);
        is("60 of 60", x.item(0, 60, 1), PLACE);
        is("59 of 60", x.item(0, 59, 1), 1);
        x.tape(0, 0, 0);
        is("0 of none", x.item(0, 0, 1), PLACE);
    }

    static void p40Peek() {
        says("Promise 40", "Item i of a TAPE.");
        for (int tape = 0; tape < 4; tape++) {
            int t = tape;
            stays("peek(" + t + ", 1)", Edges::rich, x -> x.peek(t, 1), 6 + t);
            stays("peek(" + t + ", 0)", Edges::rich, x -> x.peek(t, 0), 0);
            stays("peek(" + t + ", 2)", Edges::rich, x -> x.peek(t, 2), 0);
        }
        is("booleans: 1", rich().peek(4, 1), 1);
        OrbitDesigns x = new OrbitDesigns();
        x.tape(5, 3, 60);
        x.item(5, 59, NO);
        is("a long that is as NO", x.peek(5, 59), NO);
        x.item(5, 0, -1);
        is("below 0", x.peek(5, 0), -1);
    }

    static void p40No() {
        says("Promise 40", "NO: no such TAPE, nothing there, no such place.");
        for (int tape : NO_TAPE) {
            stays("no such TAPE " + tape, Edges::rich, x -> x.peek(tape, 0), NO);
            is("nor place", rich().peek(tape, -1), NO);
        }
        int[] places = {-1, 3, 60, MIN, MAX};
        for (int i : places) {
            stays("nothing there, " + i, Edges::rich, x -> x.peek(5, i), NO);
            stays("no such place " + i, Edges::rich, x -> x.peek(0, i), NO);
        }
        is("nothing there, 0", rich().peek(5, 0), NO);
        is("TAPE 5 of a new object", new OrbitDesigns().peek(5, 0), NO);
    }

    /** Rows of ints: 1 .. 6 and 10 .. 40; a row of no ints, one of longs; nothing. */
    private static OrbitDesigns rows() {
        OrbitDesigns x = new OrbitDesigns();
        x.tape(0, 2, 6);
        x.tape(1, 2, 4);
        x.tape(2, 2, 0);
        x.tape(3, 3, 6);
        for (int i = 0; i < 6; i++) x.item(0, i, i + 1);
        for (int i = 0; i < 4; i++) x.item(1, i, 10 * (i + 1));
        return x;
    }

    static void p41ItemsComeToAnother() {
        says("Promise 41", "n items of a TAPE from i on come to another one");
        OrbitDesigns x = rows();
        is("from the first to the first", x.shift(0, 0, 1, 0, 1), 1);
        same("one", items(x, 1, 4), "1 20 30 40");
        is("from the last to the last", x.shift(0, 5, 1, 3, 1), 1);
        same("one", items(x, 1, 4), "1 20 30 6");
        is("all of the shorter", x.shift(0, 2, 1, 0, 4), 4);
        same("all", items(x, 1, 4), "3 4 5 6");
        same("those that were told stay", items(x, 0, 6), "1 2 3 4 5 6");
        is("into the middle", x.shift(1, 2, 0, 2, 2), 2);
        same("two", items(x, 0, 6), "1 2 5 6 5 6");
    }

    static void p41OrToTheSame() {
        says("Promise 41", "(or the same) from j on, as they all were before: n.");
        OrbitDesigns x = rows();
        is("up by one, over one another", x.shift(0, 0, 0, 1, 5), 5);
        same("up", items(x, 0, 6), "1 1 2 3 4 5");
        x = rows();
        is("down by one, over one another", x.shift(0, 1, 0, 0, 5), 5);
        same("down", items(x, 0, 6), "2 3 4 5 6 6");
        x = rows();
        is("to where they are", x.shift(0, 0, 0, 0, 6), 6);
        same("as they were", items(x, 0, 6), "1 2 3 4 5 6");
        is("beside one another", x.shift(0, 0, 0, 3, 3), 3);
        same("twice", items(x, 0, 6), "1 2 3 1 2 3");
        for (int sort = 0; sort < 5; sort++) {
            OrbitDesigns y = new OrbitDesigns();
            y.tape(4, sort, 60);
            y.item(4, 0, 1);
            is("59 of sort " + sort, y.shift(4, 0, 4, 1, 59), 59);
            same("sort " + sort, items(y, 4, 4), "1 1 0 0");
        }
    }

    static void p41NoItemsAtAll() {
        says("Promise 41", "n items of a TAPE from i on come");
        stays("none from the first", Promises35To41EdgesTest::rows, x -> x.shift(0, 0, 1, 0, 0), 0);
        stays("none from the end to the end", Promises35To41EdgesTest::rows, x -> x.shift(0, 6, 1, 4, 0), 0);
        stays("none of none", Promises35To41EdgesTest::rows, x -> x.shift(2, 0, 2, 0, 0), 0);
    }

    static void p41None() {
        says("Promise 41", "NONE: tapes;");
        for (int tape : NO_TAPE) {
            stays("from " + tape, Promises35To41EdgesTest::rows, x -> x.shift(tape, 0, 1, 0, 1), NONE);
            stays("to " + tape, Promises35To41EdgesTest::rows, x -> x.shift(0, 0, tape, 0, 1), NONE);
            is("ahead of NOTHING", rows().shift(5, 0, tape, 0, 1), NONE);
            is("ahead of NOTHING", rows().shift(tape, 0, 5, 0, 1), NONE);
            is("ahead of PLACE", rows().shift(0, -1, tape, 0, 1), NONE);
        }
    }

    static void p41Nothing() {
        says("Promise 41", "NOTHING;");
        stays("from nothing", Promises35To41EdgesTest::rows, x -> x.shift(5, 0, 1, 0, 1), NOTHING);
        stays("to nothing", Promises35To41EdgesTest::rows, x -> x.shift(0, 0, 5, 0, 1), NOTHING);
        stays("from nothing to nothing", Promises35To41EdgesTest::rows, x -> x.shift(4, 0, 5, 0, 1), NOTHING);
        stays("from nothing to itself", Promises35To41EdgesTest::rows, x -> x.shift(5, 0, 5, 0, 0), NOTHING);
        is("ahead of PLACE", rows().shift(0, -1, 5, -1, -1), NOTHING);
        is("ahead of PLACE", rows().shift(5, -1, 0, -1, -1), NOTHING);
    }

    static void p41Cast() {
        says("Promise 41", "CAST: of unlike sorts;");
        stays("ints to longs", Promises35To41EdgesTest::rows, x -> x.shift(0, 0, 3, 0, 1), CAST);
        stays("longs to ints", Promises35To41EdgesTest::rows, x -> x.shift(3, 0, 0, 0, 1), CAST);
        stays("none of them", Promises35To41EdgesTest::rows, x -> x.shift(3, 0, 0, 0, 0), CAST);
        is("ahead of PLACE", rows().shift(0, 99, 3, 99, -1), CAST);
        for (int one = 0; one < 5; one++) {
            for (int other = 0; other < 5; other++) is(one + " to " + other, rich().shift(one, 0, other, 0, 3), one == other ? 3 : CAST);
        }
    }

    static void p41Place() {
        says("Promise 41", "PLACE: n, i or j is below 0, or beyond either's end.");
        int[][] places = {{0, 0, -1}, {-1, 0, 1}, {0, -1, 1}, {-1, 0, 0}, {0, -1, 0}, {5, 0, 2}, {0, 3, 2}, {6, 0, 1}, {0, 4, 1},
            {7, 0, 0}, {0, 5, 0}, {0, 0, 5}, {0, 0, 7}, {MIN, 0, 1}, {0, MIN, 1}, {0, 0, MIN}, {MAX, 0, 1}, {0, MAX, 1}, {0, 0, MAX},
            {1, 1, MAX}, {MAX, MAX, MAX}, {MIN, MIN, MIN}, {MAX, 0, 0}, {0, MAX, 0}, {1, 0, MIN}, {-1, -1, 2}};
        for (int[] p : places) {
            String call = "shift(0, " + p[0] + ", 1, " + p[1] + ", " + p[2] + ")";
            stays(call, Promises35To41EdgesTest::rows, x -> x.shift(0, p[0], 1, p[1], p[2]), PLACE);
        }
        is("beyond the end of the same", rows().shift(0, 0, 0, 1, 6), PLACE);
        is("of no items", rows().shift(2, 0, 1, 0, 1), PLACE);
        is("to no items", rows().shift(1, 0, 2, 0, 1), PLACE);
        is("just to the ends", rows().shift(0, 2, 1, 0, 4), 4);
    }
}
