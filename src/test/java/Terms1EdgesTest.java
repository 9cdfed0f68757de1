/** The boundary cases of 'Terms' 1: POINTS, sets, WAYS of each KIND, THE GROUP, ORDER, ORBITS. */
public final class Terms1EdgesTest extends Edges {
    public static void main(String[] args) {
        runAll(Terms1EdgesTest.class);
    }

    static void pointsFewestAndMost() {
        says("Terms 1", "POINTS 0 .. n - 1 (n 3 .. 8; 5 at first).");
        is("at first count(0)", new OrbitDesigns().count(0), 5);
        for (int n = 3; n <= 8; n++) {
            OrbitDesigns x = ring(n);
            is("POINT n - 1 of " + n, x.takes(0, n - 1), 0);
            is("POINT n of " + n, x.takes(0, n), NONE);
            is("POINT 0 of " + n, x.takes(0, 0), 1);
            is("POINT -1 of " + n, x.takes(0, -1), NONE);
        }
        is("n 2", new OrbitDesigns().points(2), BAD);
        is("n 9", new OrbitDesigns().points(9), BAD);
    }

    static void setsAsBitsLeastFirst() {
        says("Terms 1", "Sets of POINTS are told as bits (POINT p: bit p), the least as bits first;");
        OrbitDesigns x = of(8);
        for (int p = 0; p < 8; p++) is("orbitOf(1 << " + p + ")", x.orbitOf(1 << p), p);
        OrbitDesigns y = ring(8);
        for (int m = 0; m < 8; m++) is("member(1, 0, " + m + ")", y.member(1, 0, m), 1 << m);
    }

    static void wholeAndEmpty() {
        says("Terms 1", "WHOLE is the set of all, the empty one is one, too.");
        for (int n = 3; n <= 8; n++) {
            OrbitDesigns x = ring(n);
            int whole = (1 << n) - 1;
            is("the empty set of " + n, x.moves(0, 0), 0);
            is("WHOLE of " + n, x.moves(0, whole), whole);
            is("more than WHOLE of " + n, x.moves(0, whole + 1), NONE);
            is("orbitOf(0) of " + n, x.orbitOf(0), 0);
            is("orbitOf(WHOLE) of " + n, x.orbitOf(whole), 0);
            is("orbitOf(WHOLE + 1) of " + n, x.orbitOf(whole + 1), NONE);
            is("meets(0, 0) of " + n, x.meets(0, 0), 0);
            is("meets(WHOLE, 0) of " + n, x.meets(whole, 0), 0);
            is("meets(WHOLE + 1, 0) of " + n, x.meets(whole + 1, 0), NONE);
        }
    }

    static void waysFourAtMost() {
        says("Terms 1", "WAYS 0 .. 3, as they come (4 at most), take each POINT p to one: by KIND and FIGURE (0 .. 9):");
        OrbitDesigns x = of(5);
        for (int w = 0; w < 4; w++) is("WAY " + w, x.way(0, w + 1), w);
        is("a fifth", x.way(0, 5), FULL);
        for (int w = 0; w < 4; w++) is("figure of " + w, x.wayOf(w, 1), w + 1);
        is("WAY 4", x.wayOf(4, 1), NONE);
        is("figure 0", of(5).way(0, 0), 0);
        is("figure 9", of(5).way(0, 9), 0);
        is("figure -1", of(5).way(0, -1), BAD);
        is("figure 10", of(5).way(0, 10), BAD);
    }

    private static void kindOf(int n, int kind, int figure, int digits) {
        OrbitDesigns x = of(n);
        is("way(" + kind + ", " + figure + ") of n " + n, x.way(kind, figure), 0);
        is("what way(" + kind + ", " + figure + ") of n " + n + " does", digits(x, 0), digits);
    }

    static void shiftWrapsAround() {
        says("Terms 1", "0 SHIFT: (p plus FIGURE) modulo n.");
        kindOf(5, 0, 0, 12345);
        kindOf(5, 0, 1, 23451);
        kindOf(5, 0, 4, 51234);
        kindOf(5, 0, 5, 12345);
        kindOf(5, 0, 6, 23451);
        kindOf(3, 0, 8, 312);
        kindOf(3, 0, 9, 123);
        kindOf(4, 0, 9, 2341);
        kindOf(8, 0, 7, 81234567);
        kindOf(8, 0, 8, 12345678);
        kindOf(8, 0, 9, 23456781);
    }

    static void mirrorWrapsAround() {
        says("Terms 1", "1 MIRROR: (FIGURE plus n less p) modulo n.");
        kindOf(5, 1, 0, 15432);
        kindOf(5, 1, 4, 54321);
        kindOf(5, 1, 5, 15432);
        kindOf(5, 1, 9, 54321);
        kindOf(3, 1, 0, 132);
        kindOf(3, 1, 2, 321);
        kindOf(3, 1, 8, 321);
        kindOf(3, 1, 9, 132);
        kindOf(8, 1, 0, 18765432);
        kindOf(8, 1, 7, 87654321);
        kindOf(8, 1, 8, 18765432);
        kindOf(8, 1, 9, 21876543);
    }

    private static boolean haveNoDivisorInCommon(int figure, int n) {
        for (int d = 2; d <= n; d++) if (figure % d == 0 && n % d == 0) return false;
        return true;
    }

    static void timesOnlyWithoutCommonDivisor() {
        says("Terms 1", "2 TIMES: (p times FIGURE) modulo n (only FIGURES that have no divisor but 1 in common with n).");
        for (int n = 3; n <= 8; n++) {
            for (int figure = 0; figure <= 9; figure++) {
                OrbitDesigns x = of(n);
                boolean fine = haveNoDivisorInCommon(figure, n);
                is("way(2, " + figure + ") of n " + n, x.way(2, figure), fine ? 0 : BAD);
                is("WAYS then", x.count(1), fine ? 1 : 0);
                for (int p = 0; p < n; p++) is("to where " + p, x.takes(0, p), fine ? p * figure % n : NONE);
            }
        }
        kindOf(5, 2, 1, 12345);
        kindOf(5, 2, 9, 15432);
        kindOf(8, 2, 7, 18765432);
        kindOf(8, 2, 9, 12345678);
        is("FIGURE 0", of(7).way(2, 0), BAD);
        is("FIGURE n", of(7).way(2, 7), BAD);
        is("FIGURE 9 of n 6", of(6).way(2, 9), BAD);
    }

    static void swapRoundAbout() {
        says("Terms 1", "3 SWAP: FIGURE modulo n and the POINT behind that (round about: 0 behind n - 1) change places,"
                + " all others stay.");
        kindOf(5, 3, 0, 21345);
        kindOf(5, 3, 3, 12354);
        kindOf(5, 3, 4, 52341);
        kindOf(5, 3, 5, 21345);
        kindOf(5, 3, 9, 52341);
        kindOf(3, 3, 2, 321);
        kindOf(3, 3, 8, 321);
        kindOf(3, 3, 9, 213);
        kindOf(8, 3, 7, 82345671);
        kindOf(8, 3, 8, 21345678);
        kindOf(8, 3, 9, 13245678);
    }

    static void butOneStaysAndOthersWrap() {
        says("Terms 1", "4 BUT ONE: n - 1 stays; of all others (p plus FIGURE) modulo (n less 1).");
        kindOf(5, 4, 0, 12345);
        kindOf(5, 4, 1, 23415);
        kindOf(5, 4, 3, 41235);
        kindOf(5, 4, 4, 12345);
        kindOf(5, 4, 9, 23415);
        kindOf(3, 4, 0, 123);
        kindOf(3, 4, 1, 213);
        kindOf(3, 4, 2, 123);
        kindOf(3, 4, 9, 213);
        kindOf(8, 4, 6, 71234568);
        kindOf(8, 4, 7, 12345678);
        kindOf(8, 4, 9, 34567128);
    }

    static void handDigits() {
        says("Terms 1", "5 HAND: as told: a number of n digits, from the highest on where POINTS 0, 1, .. go, each 1 more"
                + " (of n 3: 231 takes 0 to 1, 1 to 2, 2 to 0).");
        OrbitDesigns x = byHand(3, 231);
        is("0 to 1", x.takes(0, 0), 1);
        is("1 to 2", x.takes(0, 1), 2);
        is("2 to 0", x.takes(0, 2), 0);
        is("its KIND", x.wayOf(0, 0), 5);
        OrbitDesigns y = byHand(8, 23456718);
        for (int p = 0; p < 6; p++) is(p + " of eight", y.takes(0, p), p + 1);
        is("6 of eight", y.takes(0, 6), 0);
        is("7 of eight", y.takes(0, 7), 7);
    }

    static void setsAreTakenPointByPoint() {
        says("Terms 1", "A set is taken to the set of the POINTS to which its POINTS are taken.");
        OrbitDesigns x = ring(5);
        is("the empty set", x.moves(0, 0), 0);
        is("POINT 4 alone, round about", x.moves(0, 16), 1);
        is("4 and 0", x.moves(0, 17), 3);
        is("all but 4", x.moves(0, 15), 30);
        is("WHOLE", x.moves(0, 31), 31);
        OrbitDesigns y = ring(8);
        is("POINT 7 alone", y.moves(0, 128), 1);
        is("all but 7", y.moves(0, 127), 254);
    }

    static void groupHasDoingNothing() {
        says("Terms 1", "THE GROUP: all ways to take POINTS that come of doing WAYS one behind the other, as often as one"
                + " likes, in any order (doing nothing is one).");
        for (int n = 3; n <= 8; n++) {
            is("no WAYS of " + n, of(n).order(), 1);
            OrbitDesigns x = of(n);
            x.way(0, 0);
            is("a WAY that does nothing", x.order(), 1);
            is("as often as one likes", ring(n).order(), n);
        }
        is("one behind the other", byHand(4, 2134, 1243).order(), 4);
        is("in any order", byHand(3, 213, 132).order(), 6);
        OrbitDesigns y = fourWays(3);
        is("four WAYS", y.order(), 6);
        is("the least of fifteen times", byHand(8, 23154867).order(), 6);
        is("three and five", byHand(8, 23156784).order(), 15);
    }

    static void orderIsCutAt500() {
        says("Terms 1", "ORDER: how many unlike ones there are (500, if there are 500 or more).");
        is("384", byHand(8, 21345678, 34567812, 34125678).order(), 384);
        is("576 in truth", byHand(8, 21345678, 23415678, 12346578, 12346785).order(), 500);
        is("360", byHand(6, 231456, 124536, 123564).order(), 360);
        is("720 in truth", byHand(6, 213456, 234561).order(), 500);
        is("5040 in truth", byHand(7, 2134567, 2345671).order(), 500);
        is("40320 in truth", byHand(8, 21345678, 23456781).order(), 500);
        is("120", byHand(5, 21345, 23451).order(), 120);
        is("the same WAY four times", byHand(8, 23456781, 23456781, 23456781, 23456781).order(), 8);
    }

    static void orbitOfASet() {
        says("Terms 1", "ORBIT of a set: all sets to which it is taken by THE GROUP.");
        OrbitDesigns x = byHand(5, 21345);
        is("of one that stays", x.orbit(2, x.orbitOf(3), 1), 1);
        is("of one that moves", x.orbit(2, x.orbitOf(5), 1), 2);
        is("the other one of it", x.orbitOf(6), x.orbitOf(5));
        is("without WAYS", of(5).orbit(2, 3, 1), 1);
        is("of the empty set", ring(5).orbit(0, 0, 1), 1);
        is("of WHOLE", ring(5).orbit(5, 0, 1), 1);
        is("far behind one another", byHand(8, 23456781).orbit(4, 0, 1), 8);
    }

    static void orbitsByTheirLeastSets() {
        says("Terms 1", "ORBITS of k (0 .. n): those of sets of k POINTS, numbered from 0 by the least set of each.");
        OrbitDesigns x = ring(6);
        int[] least = {7, 11, 13, 21};
        for (int i = 0; i < 4; i++) is("least of ORBIT " + i, x.orbit(3, i, 0), least[i]);
        is("no ORBIT 4", x.orbit(3, 4, 0), NONE);
        is("k 0", x.orbits(0), 1);
        is("k n", x.orbits(6), 1);
        is("k -1", x.orbits(-1), BAD);
        is("k n + 1", x.orbits(7), BAD);
        OrbitDesigns y = byHand(4, 4231);
        is("0 by its least set, though it has the greatest", y.orbit(1, 0, 2), 8);
        is("the least of 1", y.orbit(1, 1, 0), 2);
        is("the least of 2", y.orbit(1, 2, 0), 4);
    }
}
