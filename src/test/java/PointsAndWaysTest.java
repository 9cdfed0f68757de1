/** Promises 1 to 8: a new object, points, way, hand, drop, wayOf, takes, moves. */
public final class PointsAndWaysTest {
    private static final Due DUE = new Due("PointsAndWaysTest");

    public static void main(String[] args) {
        constants();
        newObject();
        points();
        waysOfEachKind();
        wayRefusals();
        hand();
        drop();
        wayOf();
        takesAndMoves();
        DUE.end();
    }

    private static void constants() {
        DUE.is("NONE", OrbitDesigns.NONE, -1);
        DUE.is("BAD", OrbitDesigns.BAD, -2);
        DUE.is("STATE", OrbitDesigns.STATE, -3);
        DUE.is("FULL", OrbitDesigns.FULL, -4);
        DUE.is("NO", OrbitDesigns.NO, Long.MIN_VALUE);
    }

    private static void newObject() {
        OrbitDesigns x = new OrbitDesigns();
        DUE.is("new count(0)", x.count(0), 5);
        DUE.is("new count(1)", x.count(1), 0);
        DUE.is("new count(2)", x.count(2), 0);
        DUE.is("new count(3)", x.count(3), 0);
        DUE.is("new count(4)", x.count(4), 0);
        DUE.is("new blocks(0)", x.blocks(0), 2);
        DUE.is("new undo()", x.undo(), -3);
        DUE.is("new order()", x.order(), 1);
        for (int t = 0; t < 6; t++) DUE.is("new peek", x.peek(t, 0), OrbitDesigns.NO);
    }

    private static void points() {
        OrbitDesigns x = new OrbitDesigns();
        DUE.is("points(2)", x.points(2), -2);
        DUE.is("points(9)", x.points(9), -2);
        DUE.is("points(min)", x.points(Integer.MIN_VALUE), -2);
        DUE.is("count(0) after refusals", x.count(0), 5);
        x.way(0, 1);
        x.choose(3, 1);
        x.keep();
        x.feed('n');
        x.tape(0, 1, 3);
        DUE.is("points(2) with all", x.points(2), -2);
        DUE.is("ways after a refusal", x.count(1), 1);
        DUE.is("points(3)", x.points(3), 5);
        DUE.is("count(0)", x.count(0), 3);
        DUE.is("count(1)", x.count(1), 0);
        DUE.is("count(2)", x.count(2), 0);
        DUE.is("count(3)", x.count(3), 0);
        DUE.is("blocks(0)", x.blocks(0), 2);
        DUE.is("the text stays", x.count(4), 1);
        DUE.is("tapes stay", x.peek(0, 2), 0);
        DUE.is("points(8)", x.points(8), 3);
        DUE.is("points(8) again", x.points(8), 8);
    }

    /** What the newest of the WAYS does, told as digits, each 1 more. */
    private static int doing(OrbitDesigns x, int way) {
        int digits = 0;
        for (int p = 0; p < x.count(0); p++) digits = digits * 10 + x.takes(way, p) + 1;
        return digits;
    }

    private static void kind(int n, int kind, int figure, int digits) {
        OrbitDesigns x = Due.of(n);
        DUE.is("way(" + kind + ", " + figure + ") of n " + n, x.way(kind, figure), 0);
        DUE.is("what it does", doing(x, 0), digits);
    }

    private static void waysOfEachKind() {
        kind(5, 0, 0, 12345);
        kind(5, 0, 2, 34512);
        kind(5, 0, 9, 51234);
        kind(3, 0, 9, 123);
        kind(5, 1, 0, 15432);
        kind(5, 1, 2, 32154);
        kind(6, 1, 9, 432165);
        kind(3, 1, 9, 132);
        kind(5, 2, 2, 13524);
        kind(5, 2, 7, 13524);
        kind(8, 2, 9, 12345678);
        kind(8, 2, 3, 14725836);
        kind(7, 2, 1, 1234567);
        kind(5, 3, 0, 21345);
        kind(5, 3, 4, 52341);
        kind(5, 3, 5, 21345);
        kind(8, 3, 7, 82345671);
        kind(8, 3, 9, 13245678);
        kind(5, 4, 1, 23415);
        kind(5, 4, 9, 23415);
        kind(3, 4, 1, 213);
        kind(8, 4, 7, 12345678);
        kind(8, 4, 8, 23456718);
    }

    private static void wayRefusals() {
        OrbitDesigns x = Due.of(6);
        DUE.is("way(-1, 0)", x.way(-1, 0), -1);
        DUE.is("way(5, 0)", x.way(5, 0), -1);
        DUE.is("way(5, 10)", x.way(5, 10), -1);
        DUE.is("way(0, -1)", x.way(0, -1), -2);
        DUE.is("way(0, 10)", x.way(0, 10), -2);
        int[] divided = {0, 2, 3, 4, 6, 8, 9};
        for (int f : divided) DUE.is("way(2, " + f + ") of 6", x.way(2, f), -2);
        DUE.is("none came", x.count(1), 0);
        DUE.is("way(2, 1) of 6", x.way(2, 1), 0);
        DUE.is("way(2, 5) of 6", x.way(2, 5), 1);
        DUE.is("way(2, 7) of 6", x.way(2, 7), 2);
        DUE.is("way(0, 9)", x.way(0, 9), 3);
        DUE.is("way(0, 9) of four", x.way(0, 9), -4);
        DUE.is("way(0, 10) of four", x.way(0, 10), -2);
        DUE.is("way(2, 2) of four", x.way(2, 2), -2);
        DUE.is("way(9, 2) of four", x.way(9, 2), -1);
        DUE.is("hand of four", x.hand(123456), -4);
        DUE.is("bad hand of four", x.hand(123455), -2);
        DUE.is("still four", x.count(1), 4);
        DUE.is("way(2, 9) of 3", Due.of(3).way(2, 9), -2);
        DUE.is("way(2, 7) of 7", Due.of(7).way(2, 7), -2);
        DUE.is("way(2, 8) of 7", Due.of(7).way(2, 8), 0);
    }

    private static void hand() {
        OrbitDesigns x = Due.of(3);
        DUE.is("hand(231)", x.hand(231), 0);
        DUE.is("0 to 1", x.takes(0, 0), 1);
        DUE.is("1 to 2", x.takes(0, 1), 2);
        DUE.is("2 to 0", x.takes(0, 2), 0);
        int[] bad = {0, -231, 12, 1231, 23, 122, 124, 230, 2310, 1000000231, Integer.MIN_VALUE, Integer.MAX_VALUE};
        for (int digits : bad) DUE.is("hand(" + digits + ")", x.hand(digits), -2);
        DUE.is("one came", x.count(1), 1);
        OrbitDesigns y = Due.of(8);
        DUE.is("hand(87654321)", y.hand(87654321), 0);
        DUE.is("it does", doing(y, 0), 87654321);
        DUE.is("hand(12345679)", y.hand(12345679), -2);
        DUE.is("hand(1234567)", y.hand(1234567), -2);
        DUE.is("hand(123456781)", y.hand(123456781), -2);
    }

    private static void drop() {
        OrbitDesigns x = Due.of(5);
        DUE.is("drop(0) of none", x.drop(0), -1);
        x.way(0, 1);
        x.way(1, 2);
        x.hand(21345);
        x.way(3, 3);
        DUE.is("drop(4)", x.drop(4), -1);
        DUE.is("drop(-1)", x.drop(-1), -1);
        DUE.is("drop(1)", x.drop(1), 3);
        DUE.is("first stays", doing(x, 0), 23451);
        DUE.is("third comes down", doing(x, 1), 21345);
        DUE.is("its kind", x.wayOf(1, 0), 5);
        DUE.is("fourth comes down", doing(x, 2), 12354);
        DUE.is("its kind", x.wayOf(2, 0), 3);
        DUE.is("its figure", x.wayOf(2, 1), 3);
        DUE.is("no fourth", x.takes(3, 0), -1);
        DUE.is("drop(2)", x.drop(2), 2);
        DUE.is("drop(0)", x.drop(0), 1);
        DUE.is("the last", doing(x, 0), 21345);
        DUE.is("a new one", x.way(1, 0), 1);
        DUE.is("does", doing(x, 1), 15432);
        x.drop(1);
        x.way(0, 7);
        x.drop(1);
        x.hand(54321);
        DUE.is("by hand where a way was", x.wayOf(1, 1), 0);
        DUE.is("its kind", x.wayOf(1, 0), 5);
        DUE.is("the other as it was", doing(x, 0), 21345);
    }

    private static void wayOf() {
        OrbitDesigns x = Due.of(8);
        x.way(1, 9);
        DUE.is("kind", x.wayOf(0, 0), 1);
        DUE.is("figure as told", x.wayOf(0, 1), 9);
        DUE.is("holds without blocks", x.wayOf(0, 2), 1);
        DUE.is("twice", x.wayOf(0, 3), 2);
        DUE.is("what 4", x.wayOf(0, 4), -1);
        DUE.is("what -1", x.wayOf(0, -1), -1);
        DUE.is("way 1", x.wayOf(1, 0), -1);
        DUE.is("way -1", x.wayOf(-1, 0), -1);
        x.hand(23154678);
        DUE.is("kind by hand", x.wayOf(1, 0), 5);
        DUE.is("figure by hand", x.wayOf(1, 1), 0);
        DUE.is("six times", x.wayOf(1, 3), 6);
        x.hand(23456718);
        DUE.is("seven times", x.wayOf(2, 3), 7);
        x.hand(23451786);
        DUE.is("fifteen times", x.wayOf(3, 3), 15);
        x.drop(3);
        x.way(0, 0);
        DUE.is("once", x.wayOf(3, 3), 1);
        x.drop(3);
        x.way(0, 1);
        DUE.is("eight times", x.wayOf(3, 3), 8);
        x.block(3);
        DUE.is("shift does not hold", x.wayOf(3, 2), 0);
        for (int p = 1; p < 7; p++) x.block(3 << p);
        DUE.is("seven of a ring do not hold", x.wayOf(3, 2), 0);
        x.block(129);
        DUE.is("the ring holds", x.wayOf(3, 2), 1);
        DUE.is("mirror holds", x.wayOf(0, 2), 1);
        DUE.is("hand does not", x.wayOf(1, 2), 0);
    }

    private static void takesAndMoves() {
        OrbitDesigns x = Due.of(5);
        x.way(0, 2);
        DUE.is("takes(0, 4)", x.takes(0, 4), 1);
        DUE.is("takes(0, 5)", x.takes(0, 5), -1);
        DUE.is("takes(0, -1)", x.takes(0, -1), -1);
        DUE.is("takes(1, 0)", x.takes(1, 0), -1);
        DUE.is("takes(-1, 0)", x.takes(-1, 0), -1);
        DUE.is("moves(0, 0)", x.moves(0, 0), 0);
        DUE.is("moves(0, 31)", x.moves(0, 31), 31);
        DUE.is("moves(0, 19)", x.moves(0, 19), 14);
        DUE.is("moves(0, 32)", x.moves(0, 32), -1);
        DUE.is("moves(0, -1)", x.moves(0, -1), -1);
        DUE.is("moves(1, 0)", x.moves(1, 0), -1);
        DUE.is("moves(-1, 0)", x.moves(-1, 0), -1);
    }
}
