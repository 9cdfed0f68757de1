/** Promises 9 to 14: order, orbits, orbit, member, orbitOf, table. */
public final class OrbitsTest {
    private static final Due DUE = new Due("OrbitsTest");

    public static void main(String[] args) {
        order();
        orbits();
        orbit();
        member();
        orbitOf();
        table();
        DUE.end();
    }

    private static int orderOf(int n, int... hands) {
        OrbitDesigns x = Due.of(n);
        for (int digits : hands) x.hand(digits);
        return x.order();
    }

    private static void order() {
        DUE.is("no ways", orderOf(8), 1);
        DUE.is("doing nothing", orderOf(3, 123, 123), 1);
        DUE.is("one of three", orderOf(3, 231), 3);
        DUE.is("all of three", orderOf(3, 231, 213), 6);
        DUE.is("all of five", orderOf(5, 23451, 21345), 120);
        DUE.is("even ones of five of six", orderOf(6, 231456, 124536), 60);
        DUE.is("even ones of six, all", orderOf(6, 231456, 124536, 123564), 360);
        DUE.is("all of six", orderOf(6, 234561, 213456), 500);
        DUE.is("all of eight", orderOf(8, 23456781, 21345678), 500);
        DUE.is("1344 in truth", orderOf(8, 23456718, 21436587, 13572468), 500);
        DUE.is("twelve by thirty", orderOf(8, 23415678, 21345678, 12346785, 12346578), 500);
        DUE.is("six by six", orderOf(6, 231456, 213456, 123564, 123546), 36);
        OrbitDesigns x = Due.of(8);
        x.way(2, 3);
        x.way(2, 5);
        x.way(0, 1);
        DUE.is("x to ax + b of 8", x.order(), 32);
        x.drop(2);
        DUE.is("x to ax of 8", x.order(), 4);
        x.points(7);
        x.way(0, 1);
        x.way(2, 3);
        DUE.is("x to ax + b of 7", x.order(), 42);
    }

    private static void orbits() {
        OrbitDesigns x = Due.of(8);
        int[] without = {1, 8, 28, 56, 70, 56, 28, 8, 1};
        for (int k = 0; k <= 8; k++) DUE.is("no ways, orbits(" + k + ")", x.orbits(k), without[k]);
        DUE.is("orbits(9)", x.orbits(9), -2);
        DUE.is("orbits(-1)", x.orbits(-1), -2);
        x.way(0, 1);
        int[] necklaces = {1, 1, 4, 7, 10, 7, 4, 1, 1};
        for (int k = 0; k <= 8; k++) DUE.is("ring, orbits(" + k + ")", x.orbits(k), necklaces[k]);
        x.way(1, 0);
        int[] bracelets = {1, 1, 4, 5, 8, 5, 4, 1, 1};
        for (int k = 0; k <= 8; k++) DUE.is("turned ring, orbits(" + k + ")", x.orbits(k), bracelets[k]);
        x.drop(0);
        DUE.is("mirror alone", x.orbits(1), 5);
        x.points(3);
        DUE.is("orbits(4) of 3", x.orbits(4), -2);
        DUE.is("orbits(3) of 3", x.orbits(3), 1);
    }

    private static void orbit() {
        OrbitDesigns x = Due.of(5);
        x.way(0, 1);
        DUE.is("least", x.orbit(2, 0, 0), 3);
        DUE.is("sets", x.orbit(2, 0, 1), 5);
        DUE.is("greatest", x.orbit(2, 0, 2), 24);
        DUE.is("least of the other", x.orbit(2, 1, 0), 5);
        DUE.is("greatest of the other", x.orbit(2, 1, 2), 20);
        DUE.is("empty set", x.orbit(0, 0, 0), 0);
        DUE.is("empty set alone", x.orbit(0, 0, 1), 1);
        DUE.is("empty set greatest", x.orbit(0, 0, 2), 0);
        DUE.is("whole", x.orbit(5, 0, 2), 31);
        DUE.is("whole of 8", Due.of(8).orbit(8, 0, 2), 255);
        DUE.is("k 6", x.orbit(6, 9, 9), -2);
        DUE.is("k -1", x.orbit(-1, 0, 0), -2);
        DUE.is("i 2", x.orbit(2, 2, 0), -1);
        DUE.is("i -1", x.orbit(2, -1, 0), -1);
        DUE.is("what 3", x.orbit(2, 0, 3), -1);
        DUE.is("what -1", x.orbit(2, 0, -1), -1);
    }

    private static void member() {
        OrbitDesigns x = Due.of(5);
        x.way(0, 1);
        int[] ring = {3, 6, 12, 17, 24};
        for (int m = 0; m < 5; m++) DUE.is("member(2, 0, " + m + ")", x.member(2, 0, m), ring[m]);
        DUE.is("member(2, 0, 5)", x.member(2, 0, 5), -5);
        DUE.is("member(2, 0, max)", x.member(2, 0, Integer.MAX_VALUE), -5);
        DUE.is("member(2, 0, -1)", x.member(2, 0, -1), -1);
        DUE.is("member(2, 2, 9)", x.member(2, 2, 9), -1);
        DUE.is("member(2, -1, 0)", x.member(2, -1, 0), -1);
        DUE.is("member(6, 0, 0)", x.member(6, 0, 0), -2);
        DUE.is("member(-1, -1, -1)", x.member(-1, -1, -1), -2);
        DUE.is("member(0, 0, 0)", x.member(0, 0, 0), 0);
    }

    private static void orbitOf() {
        OrbitDesigns x = Due.of(5);
        x.way(0, 1);
        DUE.is("orbitOf(17)", x.orbitOf(17), 0);
        DUE.is("orbitOf(20)", x.orbitOf(20), 1);
        DUE.is("orbitOf(0)", x.orbitOf(0), 0);
        DUE.is("orbitOf(31)", x.orbitOf(31), 0);
        DUE.is("orbitOf(32)", x.orbitOf(32), -1);
        DUE.is("orbitOf(-1)", x.orbitOf(-1), -1);
        DUE.is("orbitOf of trivial", Due.of(8).orbitOf(240), 69);
    }

    private static void table() {
        OrbitDesigns x = Due.of(6);
        x.way(0, 1);
        // the sets of 3 of a ring of 6: 7 (6 of them), 11 (6), 13 (6), 21 (2)
        int[][] two = {{2, 1, 1, 0}, {1, 1, 1, 1}, {0, 2, 2, 0}};
        for (int i = 0; i < 3; i++) {
            for (int j = 0; j < 4; j++) {
                DUE.is("table(2, 3, " + i + ", " + j + ")", x.table(2, 3, i, j), two[i][j]);
            }
        }
        DUE.is("table(0, 3, 0, 3)", x.table(0, 3, 0, 3), 2);
        DUE.is("table(3, 3, 1, 1)", x.table(3, 3, 1, 1), 1);
        DUE.is("table(3, 3, 1, 2)", x.table(3, 3, 1, 2), 0);
        DUE.is("table(0, 0, 0, 0)", x.table(0, 0, 0, 0), 1);
        DUE.is("table(3, 2, 0, 0)", x.table(3, 2, 0, 0), -2);
        DUE.is("table(-1, 2, 9, 0)", x.table(-1, 2, 9, 0), -2);
        DUE.is("table(2, 7, 0, 0)", x.table(2, 7, 0, 0), -2);
        DUE.is("table(7, 7, 0, 0)", x.table(7, 7, 0, 0), -2);
        DUE.is("table(2, 3, 3, 0)", x.table(2, 3, 3, 0), -1);
        DUE.is("table(2, 3, -1, 0)", x.table(2, 3, -1, 0), -1);
        DUE.is("table(2, 3, 0, 4)", x.table(2, 3, 0, 4), -1);
        DUE.is("table(2, 3, 0, -1)", x.table(2, 3, 0, -1), -1);
    }
}
