/** The boundary cases of 'Terms' 3, of its 'Answers', 'In doubt' and constants. */
public final class Terms3EdgesTest extends Edges {
    public static void main(String[] args) {
        runAll(Terms3EdgesTest.class);
    }

    static void tapesHoldNothingAtFirst() {
        says("Terms 3", "TAPES 0 .. 5 hold nothing (at first), or a row of 0 bytes, 1 shorts, 2 ints, 3 longs, 4 booleans (items 0,"
                + " 1).");
        for (int t = 0; t < 6; t++) {
            OrbitDesigns x = new OrbitDesigns();
            is("at first, " + t, x.peek(t, 0), NO);
            is("at first, " + t, x.item(t, 0, 1), NOTHING);
            is("at first, " + t, x.shift(t, 0, t, 0, 0), NOTHING);
            is("a row of none is something", x.tape(t, 0, 0), 1);
            is("a row of none", x.item(t, 0, 1), PLACE);
        }
        long v = 0x7_8000_8080L;
        long[] cut = {-128, -32640, -2147450752L, v, 1};
        for (int sort = 0; sort < 5; sort++) {
            OrbitDesigns x = new OrbitDesigns();
            x.tape(sort, sort, 1);
            x.item(sort, 0, v);
            is("sort " + sort, x.peek(sort, 0), cut[sort]);
        }
        is("TAPE 6", new OrbitDesigns().tape(6, 0, 1), NONE);
        is("TAPE -1", new OrbitDesigns().tape(-1, 0, 1), NONE);
        is("sort 5", new OrbitDesigns().tape(0, 5, 1), BAD);
    }

    private static OrbitDesigns threeBlocks() {
        return blocks(5, 2, 24, 3, 12);
    }

    private static int judged(OrbitDesigns x, int from, int... items) {
        x.tape(0, 1, items.length);
        for (int i = 0; i < items.length; i++) x.item(0, i, items[i]);
        return x.judge(0, from);
    }

    static void judgedTheFirstOtherwise() {
        says("Terms 3", "BLOCKS, the least first, told by a row of shorts, from a place on, are JUDGED: the number of the first that is"
                + " otherwise (counted from 0 from that place on);");
        is("the first", judged(threeBlocks(), 0, 5, 12, 24), 0);
        is("the last", judged(threeBlocks(), 0, 3, 12, 20), 2);
        is("the first of two", judged(threeBlocks(), 0, 3, 10, 20), 1);
        is("counted from the place on", judged(threeBlocks(), 2, 9, 9, 3, 12, 20), 2);
        is("the same sets, not the least first", judged(threeBlocks(), 0, 24, 3, 12), 0);
        is("otherwise ahead of an end that is too early", judged(threeBlocks(), 0, 5), 0);
        is("cut to a short", judged(threeBlocks(), 0, 3 + 65536, 12 - 65536, 24), ABSENT);
        is("below 0", judged(threeBlocks(), 0, 3, -12, 24), 1);
    }

    static void judgedNoneOtherwise() {
        says("Terms 3", "-5: none;");
        is("just these", judged(threeBlocks(), 0, 3, 12, 24), ABSENT);
        is("at the end of a row", judged(threeBlocks(), 1, 0, 3, 12, 24), ABSENT);
        is("what is behind does not matter", judged(threeBlocks(), 0, 3, 12, 24, 3), ABSENT);
    }

    static void judgedTheRowEnds() {
        says("Terms 3", "100 plus how many were looked at, if the row ends ahead of that (or the place is below 0, or the TAPE holds"
                + " nothing; of no BLOCKS always -5).");
        is("two of three", judged(threeBlocks(), 0, 3, 12), 102);
        is("one of three", judged(threeBlocks(), 0, 3), 101);
        is("a row of none", judged(threeBlocks(), 0), 100);
        is("two from place 1", judged(threeBlocks(), 1, 9, 3, 12), 102);
        is("the end", judged(threeBlocks(), 3, 3, 12, 24), 100);
        is("beyond the end", judged(threeBlocks(), 4, 3, 12, 24), 100);
        is("far beyond", judged(threeBlocks(), MAX, 3, 12, 24), 100);
        is("place -1", judged(threeBlocks(), -1, 3, 12, 24), 100);
        is("place min", judged(threeBlocks(), MIN, 3, 12, 24), 100);
        is("nothing", threeBlocks().judge(3, 0), 100);
        is("nothing, place -1", threeBlocks().judge(3, -1), 100);
        is("no BLOCKS", judged(of(5), 0, 3, 12, 24), ABSENT);
        is("no BLOCKS, a row of none", judged(of(5), 0), ABSENT);
        is("no BLOCKS, place -1", judged(of(5), -1, 3), ABSENT);
        is("no BLOCKS, beyond the end", judged(of(5), 9, 3), ABSENT);
        is("no BLOCKS, nothing", of(5).judge(3, 0), ABSENT);
        is("no BLOCKS, nothing, place -1", of(5).judge(3, -1), ABSENT);
        OrbitDesigns x = byHand(8, 21345678, 23456781);
        x.choose(4, 1);
        x.tape(0, 1, 60);
        for (int i = 0; i < 60; i++) x.item(0, i, x.blockOf(i));
        is("60 of 70", x.judge(0, 0), 160);
        is("59 of 70 are not", x.judge(0, 1), 0);
    }

    static void refusalNothing() {
        says("Terms 3", "The host's refusals: NOTHING (-11): nothing is there;");
        is("item", new OrbitDesigns().item(0, 0, 1), -11);
        is("shift from", rich().shift(5, 0, 0, 0, 1), -11);
        is("shift to", rich().shift(0, 0, 5, 0, 1), -11);
    }

    static void refusalCast() {
        says("Terms 3", "CAST (-12): another sort;");
        is("judge", rich().judge(0, 0), -12);
        is("shift", rich().shift(0, 0, 1, 0, 1), -12);
    }

    static void refusalPlace() {
        says("Terms 3", "PLACE (-13): no such place;");
        is("item -1", rich().item(0, -1, 1), -13);
        is("item 3 of three", rich().item(0, 3, 1), -13);
        is("shift", rich().shift(0, 0, 0, 2, 2), -13);
    }

    static void refusalSize() {
        says("Terms 3", "SIZE (-14): a size below 0.");
        is("tape of -1", rich().tape(0, 0, -1), -14);
        is("tape of 0", rich().tape(0, 0, 0), 1);
    }

    static void answerNone() {
        says("Answers", "NONE (-1) no such number, no set of POINTS;");
        is("NONE", OrbitDesigns.NONE, -1);
        is("no such WAY", new OrbitDesigns().drop(0), -1);
        is("no set of POINTS", new OrbitDesigns().orbitOf(32), -1);
        is("no set of POINTS", new OrbitDesigns().orbitOf(-1), -1);
    }

    static void answerBad() {
        says("Answers", "BAD (-2) a number is not as told;");
        is("BAD", OrbitDesigns.BAD, -2);
        is("n 9", new OrbitDesigns().points(9), -2);
        is("k 6 of n 5", new OrbitDesigns().orbits(6), -2);
    }

    static void answerState() {
        says("Answers", "STATE (-3) as told;");
        is("STATE", OrbitDesigns.STATE, -3);
        is("no IMAGE", new OrbitDesigns().undo(), -3);
        is("K is n", blocks(5, 5).turned(), -3);
    }

    static void answerFull() {
        says("Answers", "FULL (-4);");
        is("FULL", OrbitDesigns.FULL, -4);
        is("a fifth WAY", fourWays(5).way(0, 1), -4);
        is("a fifth by HAND", fourWays(5).hand(12345), -4);
    }

    static void theFirstThatTheWordsName() {
        says("Answers", "the first that a call's words name.");
        is("way: NONE, BAD", of(5).way(5, 10), NONE);
        is("way: BAD, FULL", fourWays(5).way(0, 10), BAD);
        is("hand: BAD, FULL", fourWays(5).hand(11111), BAD);
        is("orbit: BAD, NONE", of(5).orbit(6, -1, 3), BAD);
        is("member: BAD, NONE", of(5).member(6, -1, -1), BAD);
        is("table: BAD, NONE", of(5).table(3, 2, -1, -1), BAD);
        is("solved: BAD, NONE", of(8).solved(2, 4, 0, 2), BAD);
        is("solved: NONE, STATE", of(8).solved(2, 4, 1, 2), NONE);
        is("solution: BAD, NONE", of(8).solution(2, 4, 0, -1), BAD);
        is("solution: NONE, STATE", of(8).solution(2, 4, 1, -1), NONE);
        is("cover: BAD, NONE", of(8).cover(5, 4, 2), BAD);
        is("cover: NONE, STATE", of(8).cover(2, 4, 2), NONE);
        is("choose: BAD, NONE", of(5).choose(0, -1), BAD);
        is("meets: NONE, BAD", of(5).meets(32, 9), NONE);
        is("unlike: BAD, STATE", of(8).unlike(5, 4, 1), BAD);
        is("lots: BAD, NONE", of(5).lots(2, 21, 0, 2), BAD);
        is("tape: NONE, BAD", of(5).tape(6, 5, 61), NONE);
        is("tape: BAD, SIZE", of(5).tape(0, 5, -1), BAD);
        is("item: NONE, NOTHING", of(5).item(6, -1, 0), NONE);
        is("item: NOTHING, PLACE", of(5).item(0, -1, 0), NOTHING);
        is("shift: NONE, NOTHING", of(5).shift(0, 0, 6, 0, 0), NONE);
        is("shift: NOTHING, PLACE", of(5).shift(0, -1, 0, 0, 0), NOTHING);
        is("shift: CAST, PLACE", rich().shift(0, -1, 1, 0, 0), CAST);
        is("judge: NONE, -5", of(5).judge(6, 0), NONE);
        is("judge: CAST, -5", castWithoutBlocks().judge(0, 0), CAST);
    }

    private static OrbitDesigns castWithoutBlocks() {
        OrbitDesigns x = of(5);
        x.tape(0, 2, 3);
        return x;
    }

    static void whatIsAnsweredSoChangesNothing() {
        says("Answers", "What is answered so changes nothing;");
        Call[] refused = {x -> x.points(9), x -> x.way(5, 0), x -> x.way(0, 10), x -> x.way(2, 3), x -> x.hand(123455), x -> x.drop(3),
            x -> x.choose(0, 1), x -> x.choose(3, 8), x -> x.choose(7, 0), x -> x.choose(2, -1), x -> x.block(3), x -> x.block(64),
            x -> x.feed(128), x -> x.feed(-1), x -> x.tape(6, 0, 1), x -> x.tape(0, 5, 1), x -> x.tape(0, 0, 61), x -> x.tape(0, 0, -1),
            x -> x.item(6, 0, 1), x -> x.item(5, 0, 1), x -> x.item(0, 3, 1), x -> x.shift(0, 0, 6, 0, 1), x -> x.shift(0, 0, 5, 0, 1),
            x -> x.shift(0, 0, 1, 0, 1), x -> x.shift(0, 0, 0, 1, 3)};
        int[] due = {BAD, NONE, BAD, BAD, BAD, NONE, BAD, NONE, BAD, NONE, NONE, NONE, BAD, BAD, NONE, BAD, BAD, SIZE, NONE, NOTHING,
            PLACE, NONE, NOTHING, CAST, PLACE};
        for (int i = 0; i < refused.length; i++) stays("refused call " + i, Edges::rich, refused[i], due[i]);
        Maker full = () -> {
            OrbitDesigns x = fourWays(7);
            x.choose(7, 1);
            x.image();
            for (int d = 0; d < 4; d++) x.keep();
            for (int t = 0; t < 100; t++) x.feed("n5;".charAt(t % 3));
            return x;
        };
        Call[] fullOnes = {x -> x.way(0, 1), x -> x.hand(1234567), OrbitDesigns::keep, x -> x.feed('5'), OrbitDesigns::turned};
        int[] dueOfFull = {FULL, FULL, FULL, FULL, STATE};
        for (int i = 0; i < fullOnes.length; i++) stays("refused call " + i + " of a full one", full, fullOnes[i], dueOfFull[i]);
        stays("undo() without an IMAGE", () -> fourWays(5), OrbitDesigns::undo, STATE);
    }

    private static Call[] questions() {
        return new Call[] {x -> x.wayOf(2, 0), x -> x.wayOf(1, 1), x -> x.wayOf(0, 2), x -> x.wayOf(2, 3), x -> x.takes(2, 5),
            x -> x.moves(1, 63), OrbitDesigns::order, x -> x.orbits(3), x -> x.orbit(3, 2, 2), x -> x.member(3, 1, 11), x -> x.orbitOf(63),
            x -> x.table(2, 3, 2, 2), x -> x.solved(2, 3, 4, 0), x -> x.solved(0, 3, 20, 1), x -> x.solution(3, 3, 1, 0),
            x -> x.cover(2, 3, 0), x -> x.cover(3, 3, 1), x -> x.cover(1, 2, 1), x -> x.cover(2, 4, 0), x -> x.blockOf(6),
            x -> x.blocks(2), x -> x.blocks(3), x -> x.share(3),
            x -> x.meets(63, 3), x -> x.parted(5, 0), x -> x.parted(5, 1), x -> x.parted(0, 2), x -> x.design(1, 1), x -> x.alike(1, 0),
            x -> x.selves(1), x -> x.unlike(0, 3, 6), x -> x.lots(3, 20, 1, 0), x -> x.lots(2, 20, 1, 1), x -> x.judge(1, 0),
            x -> x.judge(5, 0), x -> x.count(4), x -> x.peek(3, 1)};
    }

    static void whatIsAskedChangesNothing() {
        says("Answers", "what is asked changes nothing.");
        Call[] asked = questions();
        for (int i = 0; i < asked.length; i++) {
            OrbitDesigns x = rich();
            long first = asked[i].on(x);
            is("question " + i + " again", asked[i].on(x), first);
            same("behind question " + i, sight(x), sight(rich()));
        }
    }

    static void whatIsAskedChangesNoOtherAnswer() {
        says("Answers", "what is asked changes nothing.");
        Call[] asked = questions();
        for (int i = 0; i < asked.length; i++) {
            OrbitDesigns x = rich();
            for (int j = 0; j < asked.length; j++) {
                asked[i].on(x);
                is("question " + j + " behind question " + i, asked[j].on(x), asked[j].on(rich()));
            }
        }
    }

    static void withoutBlocksStrengthIsK() {
        says("In doubt", "without BLOCKS STRENGTH is K, and lies evenly");
        for (int n = 3; n <= 8; n++) {
            for (int k = 1; k <= n; k++) {
                OrbitDesigns x = blocks(n, k);
                is("STRENGTH of K " + k, x.blocks(2), k);
                for (int s = 0; s <= k; s++) is("SHARE of " + s, x.share(s), 0);
                is("SHARE of K + 1", x.share(k + 1), BAD);
            }
        }
    }

    static void lotsCountThoseWithoutAnyOrbit() {
        says("In doubt", "(LOTS count those for which no ORBIT is chosen);");
        int none = 0;
        int some = 0;
        for (int z = 0; z < 200; z++) {
            OrbitDesigns x = of(3);
            int sets = x.lots(1, 1, z, 1);
            is("z " + z, x.lots(1, 1, z, 0), sets == 0 || sets == 3 ? 1 : 0);
            if (sets == 0) none++;
            else some++;
        }
        is("both were seen", none > 0 && some > 0 ? 1 : 0, 1);
        is("k 0: the empty set or none, even each time", of(8).lots(0, 20, 1, 0), 20);
    }

    static void twoWithoutBlocksAreAlike() {
        says("In doubt", "two DESIGNS without BLOCKS are ALIKE, whatever K is;");
        for (int n = 3; n <= 7; n++) {
            OrbitDesigns x = blocks(n, 1);
            x.keep();
            x.choose(n, 0);
            x.keep();
            is("K 1 and K n", x.alike(0, 1), 1);
            is("K n and K 1", x.alike(1, 0), 1);
            x.choose(1, 1);
            x.keep();
            is("without and with one", x.alike(0, 2), 0);
            is("with one and without", x.alike(2, 1), 0);
        }
        OrbitDesigns y = blocks(8, 1);
        y.keep();
        is("not of n 8", y.alike(0, 0), STATE);
    }

    static void turnedWithoutBlocks() {
        says("In doubt", "turned() makes K n less K without BLOCKS, too.");
        for (int n = 3; n <= 8; n++) {
            for (int k = 1; k < n; k++) {
                OrbitDesigns x = blocks(n, k);
                is("turned()", x.turned(), 0);
                is("K", x.blocks(0), n - k);
                is("no BLOCKS", x.count(2), 0);
                is("a set of so many comes", x.block((1 << n - k) - 1), 1);
            }
            is("K n", blocks(n, n).turned(), STATE);
        }
    }

    static void aPointToldTwice() {
        says("In doubt", "A POINT told twice in b counts once;");
        OrbitDesigns x = of(8);
        is("twice", read(x, "b011"), 1);
        same("two POINTS", row(x), "3");
        is("eight times, K 1", read(blocks(8, 1), "b77777777"), 1);
        is("once is too few", read(of(8), "b00"), 0);
        is("eight DIGITS of two", read(x, "b70707070"), 1);
        same("both", row(x), "3 129");
    }

    static void whatCannotBeDoneIsNotDone() {
        says("In doubt", "what a CLAUSE tells that can't be done is not done.");
        String[] refused = {"n2", "n9", "g60", "g20", "h123455", "h12345", "k00", "k34", "k70", "b0", "b067", "b0123"};
        for (String text : refused) {
            OrbitDesigns x = ring(6);
            x.choose(3, 1);
            OrbitDesigns y = ring(6);
            y.choose(3, 1);
            is(text, read(x, text), 0);
            same("behind " + text, sight(x), sight(y));
            is(text + " between others", read(x, "b024;" + text + ";b135"), 2);
            is("both others are done", x.count(2), 8);
        }
    }

    static void aThirteenthClause() {
        says("In doubt", "A thirteenth CLAUSE: the FAULT is at the ; ahead of it;");
        String twelve = "b0;b1;b2;b3;b4;b0;b1;b2;b3;b4;b0;b1";
        is("twelve", read(blocks(5, 1), twelve), 12);
        String[] behind = {";", ";b", ";b0", ";x", ";;", ";n3;n4"};
        for (String text : behind) {
            OrbitDesigns x = blocks(5, 1);
            is("twelve and '" + text + "'", read(x, twelve + text), -10 - 35);
            is("none is done", x.count(2), 0);
        }
        is("a FAULT ahead of that", read(blocks(5, 1), "n" + twelve + ";b0"), -11);
        is("a byte behind the twelfth", read(blocks(5, 1), twelve + "x"), -10 - 35);
        is("a DIGIT more of the twelfth", read(blocks(5, 1), twelve + "1"), 12);
    }

    static void aNinthDigit() {
        says("In doubt", "a ninth DIGIT: at it.");
        is("of h", read(of(8), "h123456781"), -10 - 9);
        is("of b", read(of(8), "b012345670"), -10 - 9);
        is("of a later h", read(of(8), "n8;h123456781"), -10 - 12);
        is("of a later b", read(of(8), "n8;b012345670;n"), -10 - 12);
        is("eight of h", read(of(8), "h12345678"), 1);
        is("eight of b", read(blocks(8, 8), "b01234567"), 1);
    }

    static void noneAheadOfState() {
        says("In doubt", "Of several refusals the one told first counts, NONE ahead of STATE, too.");
        is("solved", of(8).solved(2, 4, 1, 9), NONE);
        is("solution", of(8).solution(2, 4, 1, -1), NONE);
        is("cover", of(8).cover(2, 4, -1), NONE);
        is("alike, the first", rich8().alike(9, 0), NONE);
        is("alike, the other", rich8().alike(0, 9), NONE);
        is("selves", rich8().selves(9), NONE);
        is("BAD ahead of NONE where it is told first", of(8).solved(5, 4, 1, 9), BAD);
        is("NONE ahead of BAD where it is told first", of(8).meets(-1, -1), NONE);
    }

    static void undoLeavesTextAndTapes() {
        says("In doubt", "undo() leaves THE TEXT and TAPES.");
        OrbitDesigns x = new OrbitDesigns();
        x.image();
        feed(x, "n7");
        x.tape(0, 1, 3);
        x.item(0, 2, 9);
        x.undo();
        is("THE TEXT that came behind", x.count(4), 2);
        is("the TAPE that came behind", x.peek(0, 2), 9);
        is("it is read", x.read(), 1);
        is("n", x.count(0), 7);
        feed(x, "n6");
        x.image();
        x.read();
        x.tape(0, -1, 0);
        x.undo();
        is("THE TEXT that was read stays empty", x.count(4), 0);
        is("the TAPE stays as it is", x.item(0, 0, 1), NOTHING);
        is("n is as THE IMAGE", x.count(0), 7);
    }

    static void memberNoneAheadOfAbsent() {
        says("In doubt", "member(): no such ORBIT, m below 0: NONE, ahead of -5.");
        is("no such ORBIT, not as many", ring(5).member(2, 2, 99), NONE);
        is("ORBIT -1, not as many", ring(5).member(2, -1, 99), NONE);
        is("m below 0", ring(5).member(2, 0, -1), NONE);
        is("neither", ring(5).member(2, 9, -9), NONE);
        is("not as many", ring(5).member(2, 1, 5), ABSENT);
    }

    static void constantNo() {
        says("Constants", "`NO = Long.MIN_VALUE`: There is no such number.");
        is("NO", OrbitDesigns.NO, Long.MIN_VALUE);
        is("of a TAPE that holds nothing", new OrbitDesigns().peek(0, 0), Long.MIN_VALUE);
    }
}
