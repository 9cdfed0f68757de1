/** The boundary cases of promises 1 to 8: a new object, points, way, hand, drop, wayOf, takes, moves. */
public final class Promises1To8EdgesTest extends Edges {
    public static void main(String[] args) {
        runAll(Promises1To8EdgesTest.class);
    }

    static void p01NewObject() {
        says("Promise 1", "Five POINTS, no WAYS, no BLOCKS, no DESIGNS.");
        OrbitDesigns x = new OrbitDesigns();
        is("n", x.count(0), 5);
        is("WAYS", x.count(1), 0);
        is("BLOCKS", x.count(2), 0);
        is("DESIGNS", x.count(3), 0);
        is("bytes", x.count(4), 0);
        is("K", x.blocks(0), 2);
        is("WHOLE", x.orbitOf(31), 0);
        is("beyond WHOLE", x.orbitOf(32), NONE);
        is("no WAY 0", x.wayOf(0, 0), NONE);
        is("no WAY to drop", x.drop(0), NONE);
        is("no BLOCK 0", x.blockOf(0), ABSENT);
        is("no DESIGN 0", x.design(0, 0), NONE);
        is("no IMAGE", x.undo(), STATE);
        for (int t = 0; t < 6; t++) is("TAPE " + t, x.item(t, 0, 1), NOTHING);
    }

    static void p01NewObjectIsNoneOfAnother() {
        says("Promise 1", "no WAYS, no BLOCKS, no DESIGNS.");
        OrbitDesigns full = rich();
        same("a new object beside a full one", sight(new OrbitDesigns()), sight(new OrbitDesigns()));
        is("the full one's WAYS", full.count(1), 3);
        OrbitDesigns x = new OrbitDesigns();
        is("a new one's WAYS", x.count(1) + x.count(2) + x.count(3) + x.count(4), 0);
        is("a new one's IMAGE", x.undo(), STATE);
    }

    static void p02PointsFewestAndMost() {
        says("Promise 2", "There are n POINTS,");
        OrbitDesigns x = new OrbitDesigns();
        is("points(3)", x.points(3), 5);
        is("n", x.count(0), 3);
        is("WHOLE of 3", x.orbitOf(7), 0);
        is("beyond", x.orbitOf(8), NONE);
        is("points(8)", x.points(8), 3);
        is("n", x.count(0), 8);
        is("WHOLE of 8", x.orbitOf(255), 0);
        is("beyond", x.orbitOf(256), NONE);
    }

    static void p02PointsLeaveNothing() {
        says("Promise 2", "no WAYS, no BLOCKS (K 2), no DESIGNS");
        for (int n = 3; n <= 8; n++) {
            OrbitDesigns x = rich();
            x.points(n);
            is("n", x.count(0), n);
            is("WAYS", x.count(1), 0);
            is("BLOCKS", x.count(2), 0);
            is("K", x.blocks(0), 2);
            is("DESIGNS", x.count(3), 0);
            is("THE GROUP", x.order(), 1);
            is("no BLOCK", x.blockOf(0), ABSENT);
            is("nothing that was a BLOCK", x.choose(3, 0) + x.blocks(3), 0);
            is("the next WAY", x.way(0, 1), 0);
            is("the next DESIGN", x.keep(), 0);
        }
    }

    static void p02PointsAsManyAsThereWere() {
        says("Promise 2", "how many there were.");
        OrbitDesigns x = rich();
        is("points(6) of 6", x.points(6), 6);
        is("WAYS are gone all the same", x.count(1), 0);
        is("BLOCKS are gone all the same", x.count(2), 0);
        is("points(5)", x.points(5), 6);
        is("points(5) again", x.points(5), 5);
    }

    static void p02PointsLeaveTextTapesImage() {
        says("Promise 2", "There are n POINTS, no WAYS, no BLOCKS (K 2), no DESIGNS: how many there were.");
        OrbitDesigns x = rich();
        x.points(8);
        is("THE TEXT", x.count(4), 13);
        is("a TAPE", x.peek(1, 1), 7);
        is("THE IMAGE", x.undo(), 6);
        is("its POINTS", x.count(0), 6);
    }

    static void p02PointsBad() {
        says("Promise 2", "BAD.");
        int[] bad = {2, 9, 1, 0, -1, -5, 10, MIN, MAX};
        for (int n : bad) stays("points(" + n + ")", Edges::rich, x -> x.points(n), BAD);
    }

    static void p03WayOfTheFirstAndLastKind() {
        says("Promise 3", "A WAY of a KIND (0 .. 4): its number.");
        OrbitDesigns x = of(5);
        is("KIND 0", x.way(0, 0), 0);
        is("KIND 4", x.way(4, 9), 1);
        is("KIND 3", x.way(3, 9), 2);
        is("KIND 1", x.way(1, 0), 3);
        is("KIND of 1", x.wayOf(1, 0), 4);
        x.drop(0);
        is("the number that is free then", x.way(2, 2), 3);
        is("KIND of 3", x.wayOf(3, 0), 2);
    }

    static void p03WayNoSuchKind() {
        says("Promise 3", "NONE: kind;");
        int[] none = {-1, 5, 6, MIN, MAX};
        for (int kind : none) {
            stays("way(" + kind + ", 1)", Edges::rich, x -> x.way(kind, 1), NONE);
            stays("way(" + kind + ", 10), ahead of BAD", Edges::rich, x -> x.way(kind, 10), NONE);
            stays("way(" + kind + ", 1), ahead of FULL", () -> fourWays(6), x -> x.way(kind, 1), NONE);
        }
    }

    static void p03WayBadFigure() {
        says("Promise 3", "BAD: figure (of TIMES also one with a divisor in common);");
        int[] bad = {-1, 10, MIN, MAX};
        for (int figure : bad) {
            for (int kind = 0; kind <= 4; kind++) {
                int k = kind;
                stays("way(" + k + ", " + figure + ")", Edges::rich, x -> x.way(k, figure), BAD);
                stays("way(" + k + ", " + figure + "), ahead of FULL", () -> fourWays(6), x -> x.way(k, figure), BAD);
            }
        }
        int[] divided = {0, 2, 3, 4, 6, 8, 9};
        for (int figure : divided) {
            stays("way(2, " + figure + ") of n 6", Edges::rich, x -> x.way(2, figure), BAD);
            stays("way(2, " + figure + "), ahead of FULL", () -> fourWays(6), x -> x.way(2, figure), BAD);
            is("way(0, " + figure + ") of n 6", of(6).way(0, figure), 0);
        }
    }

    static void p03WayFull() {
        says("Promise 3", "FULL.");
        for (int kind = 0; kind <= 4; kind++) {
            int k = kind;
            stays("way(" + k + ", 1) of four", () -> fourWays(7), x -> x.way(k, 1), FULL);
        }
        OrbitDesigns x = fourWays(7);
        x.drop(3);
        is("not when one is dropped", x.way(0, 1), 3);
        is("then again", x.way(0, 1), FULL);
    }

    static void p04HandComesAsAWay() {
        says("Promise 4", "A WAY by HAND: its number.");
        OrbitDesigns x = of(3);
        is("the first", x.hand(123), 0);
        is("the second", x.hand(321), 1);
        is("behind one of a KIND", x.way(0, 1), 2);
        is("the fourth", x.hand(132), 3);
        is("it does", digits(x, 3), 132);
        OrbitDesigns y = of(8);
        is("the greatest of 8", y.hand(87654321), 0);
        is("the least of 8", y.hand(12345678), 1);
        is("it does", digits(y, 0), 87654321);
        is("it does", digits(y, 1), 12345678);
    }

    static void p04HandTooFewOrManyDigits() {
        says("Promise 4", "BAD: not n digits, each of 1 .. n once;");
        int[] bad = {12345, 1234567, 1, 0, -123456, -1, 123456789, MIN, MAX, 1000123456};
        for (int d : bad) stays("hand(" + d + ") of 6", Edges::rich, x -> x.hand(d), BAD);
        is("two of three", of(3).hand(21), BAD);
        is("four of three", of(3).hand(1231), BAD);
        is("four of three, 4 ahead", of(3).hand(4123), BAD);
        is("nine of eight", of(8).hand(123456789), BAD);
        is("seven of eight", of(8).hand(1234567), BAD);
        is("nine of eight, 1 ahead", of(8).hand(187654321), BAD);
    }

    static void p04HandDigitsNotOfEachOnce() {
        says("Promise 4", "each of 1 .. n once");
        int[] bad = {123455, 113456, 123450, 123457, 923456, 111111, 666666, 101010, 912345, 203456};
        for (int d : bad) stays("hand(" + d + ") of 6", Edges::rich, x -> x.hand(d), BAD);
        int[] badOfThree = {122, 124, 130, 103, 333, 111, 999};
        for (int d : badOfThree) is("hand(" + d + ") of 3", of(3).hand(d), BAD);
        int[] badOfEight = {12345679, 12345670, 11345678, 88888888, 10345678};
        for (int d : badOfEight) is("hand(" + d + ") of 8", of(8).hand(d), BAD);
    }

    static void p04HandFull() {
        says("Promise 4", "FULL.");
        stays("hand(123456) of four", () -> fourWays(6), x -> x.hand(123456), FULL);
        stays("hand(123455) of four: BAD is told first", () -> fourWays(6), x -> x.hand(123455), BAD);
        OrbitDesigns x = byHand(3, 123, 132, 213, 231);
        is("four by HAND", x.hand(312), FULL);
        is("nor by a KIND", x.way(0, 1), FULL);
    }

    static void p05DropMakesThoseBehindOneLess() {
        says("Promise 5", "A WAY goes; those behind it are one less: how many are left.");
        OrbitDesigns x = byHand(4, 2341, 2134, 4321, 1324);
        is("drop of the first", x.drop(0), 3);
        is("0 was 1", digits(x, 0), 2134);
        is("1 was 2", digits(x, 1), 4321);
        is("2 was 3", digits(x, 2), 1324);
        is("3 is none", x.takes(3, 0), NONE);
        is("drop of the last", x.drop(2), 2);
        is("0 stays", digits(x, 0), 2134);
        is("1 stays", digits(x, 1), 4321);
        is("2 is none", x.takes(2, 0), NONE);
        is("drop of one but the last", x.drop(0), 1);
        is("0 was 1", digits(x, 0), 4321);
        is("drop of the only one", x.drop(0), 0);
        is("THE GROUP then", x.order(), 1);
        is("no WAY then", x.drop(0), NONE);
    }

    static void p05DropMakesKindAndFigureComeDown() {
        says("Promise 5", "those behind it are one less");
        OrbitDesigns x = of(5);
        x.way(0, 1);
        x.way(1, 2);
        x.way(3, 9);
        x.hand(23451);
        x.drop(0);
        int[] kinds = {1, 3, 5};
        int[] figures = {2, 9, 0};
        int[] often = {2, 2, 5};
        for (int w = 0; w < 3; w++) {
            is("KIND of " + w, x.wayOf(w, 0), kinds[w]);
            is("FIGURE of " + w, x.wayOf(w, 1), figures[w]);
            is("how often, of " + w, x.wayOf(w, 3), often[w]);
        }
    }

    static void p05DropLeavesTheRest() {
        says("Promise 5", "A WAY goes;");
        OrbitDesigns x = rich();
        int many = x.count(2);
        is("drop(2)", x.drop(2), 2);
        is("BLOCKS stay", x.count(2), many);
        is("DESIGNS stay", x.count(3), 2);
        is("THE IMAGE stays", x.undo(), 6);
        is("its WAYS", x.count(1), 2);
    }

    static void p05DropNone() {
        says("Promise 5", "NONE.");
        int[] none = {-1, 3, 4, MIN, MAX};
        for (int way : none) stays("drop(" + way + ") of three", Edges::rich, x -> x.drop(way), NONE);
        is("drop(0) of none", of(5).drop(0), NONE);
        is("drop(4) of four", fourWays(5).drop(4), NONE);
        is("drop(3) of four", fourWays(5).drop(3), 3);
    }

    static void p06KindOfAWay() {
        says("Promise 6", "Of a WAY its KIND (what 0)");
        OrbitDesigns x = fourWays(5);
        int[] kinds = {0, 1, 3, 4};
        for (int w = 0; w < 4; w++) is("KIND of " + w, x.wayOf(w, 0), kinds[w]);
        is("by HAND", byHand(5, 23451).wayOf(0, 0), 5);
        OrbitDesigns y = of(5);
        y.way(2, 9);
        is("TIMES", y.wayOf(0, 0), 2);
    }

    static void p06FigureOfAWay() {
        says("Promise 6", "FIGURE (1; by HAND 0)");
        OrbitDesigns x = of(3);
        x.way(0, 9);
        x.way(3, 0);
        x.hand(231);
        is("as told, more than n", x.wayOf(0, 1), 9);
        is("0", x.wayOf(1, 1), 0);
        is("by HAND", x.wayOf(2, 1), 0);
        x.drop(0);
        x.drop(0);
        x.way(0, 7);
        x.drop(1);
        x.hand(312);
        is("by HAND where one with a FIGURE was", x.wayOf(1, 1), 0);
    }

    static void p06HoldsOrNot() {
        says("Promise 6", "whether it HOLDS (2; 1, 0)");
        OrbitDesigns x = ring(5);
        is("without BLOCKS", x.wayOf(0, 2), 1);
        x.block(3);
        is("one BLOCK that moves", x.wayOf(0, 2), 0);
        int[] rest = {6, 12, 24};
        for (int set : rest) x.block(set);
        is("all but one", x.wayOf(0, 2), 0);
        x.block(17);
        is("all of the ring", x.wayOf(0, 2), 1);
        x.block(5);
        is("one more", x.wayOf(0, 2), 0);
        x.choose(5, 1);
        is("WHOLE alone", x.wayOf(0, 2), 1);
        x.choose(2, 3);
        is("all sets of two", x.wayOf(0, 2), 1);
        OrbitDesigns y = byHand(5, 13245);
        y.block(24);
        is("one that stays", y.wayOf(0, 2), 1);
        y.block(6);
        is("one within which it moves", y.wayOf(0, 2), 1);
        y.block(3);
        is("one that it takes to no BLOCK", y.wayOf(0, 2), 0);
        y.block(5);
        is("two that it takes to one another", y.wayOf(0, 2), 1);
    }

    static void p06HowOftenTillAllIsAsAhead() {
        says("Promise 6", "how often it must be done till all POINTS are as ahead (3; 1 at least).");
        OrbitDesigns x = of(6);
        x.way(0, 0);
        x.way(2, 1);
        x.way(0, 6);
        x.hand(123456);
        for (int w = 0; w < 4; w++) is("one that does nothing", x.wayOf(w, 3), 1);
        for (int n = 3; n <= 8; n++) is("a ring of " + n, ring(n).wayOf(0, 3), n);
        is("two", byHand(3, 213).wayOf(0, 3), 2);
        is("two and three", byHand(5, 21453).wayOf(0, 3), 6);
        is("three and four", byHand(7, 2315674).wayOf(0, 3), 12);
        is("two and five", byHand(7, 2145673).wayOf(0, 3), 10);
        is("three and five, the most", byHand(8, 23156784).wayOf(0, 3), 15);
        is("two, two and four", byHand(8, 21436785).wayOf(0, 3), 4);
        is("three and three and two", byHand(8, 23156487).wayOf(0, 3), 6);
    }

    static void p06WayOfNone() {
        says("Promise 6", "NONE.");
        int[] none = {-1, 3, 4, MIN, MAX};
        for (int way : none) {
            for (int what = 0; what < 4; what++) {
                int w = what;
                stays("wayOf(" + way + ", " + w + ")", Edges::rich, x -> x.wayOf(way, w), NONE);
            }
        }
        int[] whats = {-1, 4, MIN, MAX};
        for (int what : whats) stays("wayOf(0, " + what + ")", Edges::rich, x -> x.wayOf(0, what), NONE);
        is("wayOf(4, 0) of four", fourWays(5).wayOf(4, 0), NONE);
        is("wayOf(0, 0) of none", of(5).wayOf(0, 0), NONE);
    }

    static void p07TakesTheLastPoint() {
        says("Promise 7", "To which POINT a WAY takes p.");
        OrbitDesigns x = fourWays(8);
        is("SHIFT of 7", x.takes(0, 7), 0);
        is("SHIFT of 0", x.takes(0, 0), 1);
        is("MIRROR of 7", x.takes(1, 7), 3);
        is("MIRROR of 2", x.takes(1, 2), 0);
        is("SWAP of 0", x.takes(2, 0), 1);
        is("SWAP of 7", x.takes(2, 7), 7);
        is("BUT ONE of 7", x.takes(3, 7), 7);
        is("BUT ONE of 6", x.takes(3, 6), 0);
    }

    static void p07TakesNone() {
        says("Promise 7", "NONE.");
        int[] noPoint = {-1, 6, 7, 8, MIN, MAX};
        for (int p : noPoint) stays("takes(0, " + p + ") of n 6", Edges::rich, x -> x.takes(0, p), NONE);
        int[] noWay = {-1, 3, 4, MIN, MAX};
        for (int way : noWay) stays("takes(" + way + ", 0) of three", Edges::rich, x -> x.takes(way, 0), NONE);
        is("takes(0, 0) of none", of(5).takes(0, 0), NONE);
        is("takes(0, 8) of n 8", ring(8).takes(0, 8), NONE);
        is("takes(4, 0) of four", fourWays(5).takes(4, 0), NONE);
        is("neither", of(5).takes(-1, -1), NONE);
    }

    static void p08MovesEmptyAndWhole() {
        says("Promise 8", "To which set a WAY takes a set.");
        OrbitDesigns x = fourWays(8);
        for (int w = 0; w < 4; w++) {
            is("the empty set", x.moves(w, 0), 0);
            is("WHOLE", x.moves(w, 255), 255);
        }
        is("SHIFT, round about", x.moves(0, 192), 129);
        is("MIRROR", x.moves(1, 1), 4);
        is("SWAP", x.moves(2, 5), 6);
        is("BUT ONE", x.moves(3, 192), 129);
    }

    static void p08MovesNone() {
        says("Promise 8", "NONE.");
        int[] noSet = {-1, 64, 65, 256, MIN, MAX};
        for (int set : noSet) stays("moves(0, " + set + ") of n 6", Edges::rich, x -> x.moves(0, set), NONE);
        int[] noWay = {-1, 3, 4, MIN, MAX};
        for (int way : noWay) stays("moves(" + way + ", 0) of three", Edges::rich, x -> x.moves(way, 0), NONE);
        is("moves(0, 0) of none", of(5).moves(0, 0), NONE);
        is("moves(0, 256) of n 8", ring(8).moves(0, 256), NONE);
        is("moves(0, 8) of n 3", ring(3).moves(0, 8), NONE);
        is("moves(0, 7) of n 3", ring(3).moves(0, 7), 7);
    }
}
