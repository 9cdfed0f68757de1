/** The boundary cases of promises 9 to 14: order, orbits, orbit, member, orbitOf, table. */
public final class Promises9To14EdgesTest extends Edges {
    public static void main(String[] args) {
        runAll(Promises9To14EdgesTest.class);
    }

    static void p09OrderLeastAndMost() {
        says("Promise 9", "ORDER.");
        for (int n = 3; n <= 8; n++) is("without WAYS", of(n).order(), 1);
        is("of a new object", new OrbitDesigns().order(), 1);
        is("all of three", byHand(3, 213, 231).order(), 6);
        is("all of four", byHand(4, 2134, 2341).order(), 24);
        is("all of five", byHand(5, 21345, 23451).order(), 120);
        is("720 are told as 500", byHand(6, 213456, 234561).order(), 500);
        is("384 are told", byHand(8, 21345678, 34567812, 34125678).order(), 384);
        is("four WAYS of one order", byHand(8, 21345678, 12435678, 12346578, 12345687).order(), 16);
        OrbitDesigns x = byHand(8, 21345678, 23456781);
        is("500", x.order(), 500);
        is("the same again", x.order(), 500);
        x.drop(0);
        is("8 when one is dropped", x.order(), 8);
        x.drop(0);
        is("1 when all are", x.order(), 1);
    }

    static void p10OrbitsFewestAndMost() {
        says("Promise 10", "How many ORBITS of k there are.");
        int[] eight = {1, 8, 28, 56, 70, 56, 28, 8, 1};
        for (int k = 0; k <= 8; k++) {
            is("without WAYS, k " + k, of(8).orbits(k), eight[k]);
            is("by all WAYS, k " + k, byHand(8, 21345678, 23456781).orbits(k), 1);
        }
        int[] three = {1, 3, 3, 1};
        for (int k = 0; k <= 3; k++) is("of three, k " + k, of(3).orbits(k), three[k]);
        OrbitDesigns x = of(6);
        x.way(3, 0);
        is("sets of three, two changing places", x.orbits(3), 14);
        x.drop(0);
        is("when dropped", x.orbits(3), 20);
    }

    static void p10OrbitsBad() {
        says("Promise 10", "BAD.");
        int[] bad = {-1, 7, 8, 9, MIN, MAX};
        for (int k : bad) stays("orbits(" + k + ") of n 6", Edges::rich, x -> x.orbits(k), BAD);
        for (int n = 3; n <= 8; n++) {
            is("orbits(n + 1)", of(n).orbits(n + 1), BAD);
            is("orbits(n)", of(n).orbits(n), 1);
            is("orbits(0)", of(n).orbits(0), 1);
        }
    }

    static void p11LeastSet() {
        says("Promise 11", "Of ORBIT i of k the least set (what 0)");
        OrbitDesigns x = ring(6);
        is("of the empty set", x.orbit(0, 0, 0), 0);
        is("of WHOLE", x.orbit(6, 0, 0), 63);
        is("of the first", x.orbit(3, 0, 0), 7);
        is("of the last", x.orbit(3, 3, 0), 21);
        is("of the last of 70", of(8).orbit(4, 69, 0), 240);
        is("of the first of 70", of(8).orbit(4, 0, 0), 15);
    }

    static void p11HowManySets() {
        says("Promise 11", "how many sets it has (1)");
        OrbitDesigns x = ring(6);
        is("of the empty set", x.orbit(0, 0, 1), 1);
        is("of WHOLE", x.orbit(6, 0, 1), 1);
        is("of the first", x.orbit(3, 0, 1), 6);
        is("of a short one", x.orbit(3, 3, 1), 2);
        is("all of 70", byHand(8, 21345678, 23456781).orbit(4, 0, 1), 70);
        is("one of 70", of(8).orbit(4, 69, 1), 1);
    }

    static void p11GreatestSet() {
        says("Promise 11", "the greatest set (2).");
        OrbitDesigns x = ring(6);
        is("of the empty set", x.orbit(0, 0, 2), 0);
        is("of WHOLE", x.orbit(6, 0, 2), 63);
        is("of the first", x.orbit(3, 0, 2), 56);
        is("of a short one", x.orbit(3, 3, 2), 42);
        is("all of 70", byHand(8, 21345678, 23456781).orbit(4, 0, 2), 240);
        is("of one set", of(8).orbit(4, 1, 2), 23);
    }

    static void p11BadK() {
        says("Promise 11", "BAD: k;");
        int[] bad = {-1, 7, MIN, MAX};
        for (int k : bad) {
            stays("orbit(" + k + ", 0, 0)", Edges::rich, x -> x.orbit(k, 0, 0), BAD);
            is("orbit(" + k + ", -1, 9), ahead of NONE", rich().orbit(k, -1, 9), BAD);
        }
    }

    static void p11None() {
        says("Promise 11", "NONE: i, what.");
        int[] noOrbit = {-1, 3, 4, MIN, MAX};
        for (int i : noOrbit) {
            for (int what = 0; what < 3; what++) {
                int w = what;
                stays("orbit(3, " + i + ", " + w + ")", Edges::rich, x -> x.orbit(3, i, w), NONE);
            }
        }
        int[] whats = {-1, 3, MIN, MAX};
        for (int what : whats) stays("orbit(3, 0, " + what + ")", Edges::rich, x -> x.orbit(3, 0, what), NONE);
        is("orbit(0, 1, 0)", of(5).orbit(0, 1, 0), NONE);
        is("orbit(4, 70, 0) of n 8", of(8).orbit(4, 70, 0), NONE);
        is("orbit(4, 69, 0) of n 8", of(8).orbit(4, 69, 0), 240);
    }

    static void p12MembersLeastFirst() {
        says("Promise 12", "Set m of ORBIT i of k, the least first, from 0;");
        OrbitDesigns x = ring(6);
        int[] ring = {7, 14, 28, 35, 49, 56};
        for (int m = 0; m < 6; m++) is("member(3, 0, " + m + ")", x.member(3, 0, m), ring[m]);
        is("member(3, 3, 0)", x.member(3, 3, 0), 21);
        is("member(3, 3, 1)", x.member(3, 3, 1), 42);
        is("the empty set", x.member(0, 0, 0), 0);
        is("WHOLE", x.member(6, 0, 0), 63);
        OrbitDesigns y = byHand(8, 21345678, 23456781);
        is("first of 70", y.member(4, 0, 0), 15);
        is("last of 70", y.member(4, 0, 69), 240);
    }

    static void p12NotAsMany() {
        says("Promise 12", "-5: there are not as many.");
        stays("member(3, 0, 6)", Edges::rich, x -> x.member(3, 0, 6), ABSENT);
        stays("member(3, 0, max)", Edges::rich, x -> x.member(3, 0, MAX), ABSENT);
        OrbitDesigns x = ring(6);
        is("member(3, 3, 2) of two", x.member(3, 3, 2), ABSENT);
        is("member(0, 0, 1)", x.member(0, 0, 1), ABSENT);
        is("member(6, 0, 1)", x.member(6, 0, 1), ABSENT);
        is("member(4, 0, 70) of 70", byHand(8, 21345678, 23456781).member(4, 0, 70), ABSENT);
    }

    static void p12BadK() {
        says("Promise 12", "BAD: k;");
        int[] bad = {-1, 7, MIN, MAX};
        for (int k : bad) {
            stays("member(" + k + ", 0, 0)", Edges::rich, x -> x.member(k, 0, 0), BAD);
            is("member(" + k + ", -1, -1), ahead of NONE", rich().member(k, -1, -1), BAD);
            is("member(" + k + ", 0, 99), ahead of -5", rich().member(k, 0, 99), BAD);
        }
    }

    static void p12None() {
        says("Promise 12", "NONE: i, m below 0.");
        int[] noOrbit = {-1, 3, MIN, MAX};
        for (int i : noOrbit) {
            stays("member(3, " + i + ", 0)", Edges::rich, x -> x.member(3, i, 0), NONE);
            is("member(3, " + i + ", 99), ahead of -5", rich().member(3, i, 99), NONE);
        }
        int[] below = {-1, -2, MIN};
        for (int m : below) stays("member(3, 0, " + m + ")", Edges::rich, x -> x.member(3, 0, m), NONE);
        is("member(4, 70, 0) of n 8", of(8).member(4, 70, 0), NONE);
        is("member(4, 69, 1) of n 8", of(8).member(4, 69, 1), ABSENT);
    }

    static void p13NumberOfItsOrbit() {
        says("Promise 13", "The number of its ORBIT.");
        OrbitDesigns x = ring(6);
        is("of the empty set", x.orbitOf(0), 0);
        is("of WHOLE", x.orbitOf(63), 0);
        is("of the greatest of the first", x.orbitOf(56), 0);
        is("of the greatest of the last", x.orbitOf(42), 3);
        is("of the last of 70", of(8).orbitOf(240), 69);
        is("of the first of 70", of(8).orbitOf(15), 0);
        is("of POINT 7", of(8).orbitOf(128), 7);
    }

    static void p13None() {
        says("Promise 13", "NONE.");
        int[] noSet = {-1, 64, 128, 256, MIN, MAX};
        for (int set : noSet) stays("orbitOf(" + set + ") of n 6", Edges::rich, x -> x.orbitOf(set), NONE);
        is("orbitOf(256) of n 8", of(8).orbitOf(256), NONE);
        is("orbitOf(255) of n 8", of(8).orbitOf(255), 0);
        is("orbitOf(8) of n 3", of(3).orbitOf(8), NONE);
        is("orbitOf(7) of n 3", of(3).orbitOf(7), 0);
    }

    static void p14Table() {
        says("Promise 14", "TABLE.");
        OrbitDesigns x = ring(6);
        for (int i = 0; i < 4; i++) {
            for (int j = 0; j < 4; j++) is("t is k, " + i + ", " + j, x.table(3, 3, i, j), i == j ? 1 : 0);
        }
        int[] sets = {6, 6, 6, 2};
        for (int j = 0; j < 4; j++) is("t is 0, " + j, x.table(0, 3, 0, j), sets[j]);
        is("t 0, k 0", x.table(0, 0, 0, 0), 1);
        is("t n, k n", x.table(6, 6, 0, 0), 1);
        is("t 0, k n", x.table(0, 6, 0, 0), 1);
        is("none lies so", x.table(2, 3, 0, 3), 0);
        is("the last of 70", of(8).table(4, 4, 69, 69), 1);
        is("all of 70", byHand(8, 21345678, 23456781).table(0, 4, 0, 0), 70);
        is("35 of 70", byHand(8, 21345678, 23456781).table(1, 4, 0, 0), 35);
    }

    static void p14BadSizes() {
        says("Promise 14", "BAD: t, k, t above k;");
        int[][] bad = {{-1, 3}, {7, 3}, {3, -1}, {3, 7}, {4, 3}, {1, 0}, {6, 5}, {7, 7}, {-1, -1}, {MIN, 3}, {MAX, 3},
            {2, MIN}, {2, MAX}, {MAX, MAX}, {MIN, MIN}};
        for (int[] b : bad) {
            stays("table(" + b[0] + ", " + b[1] + ", 0, 0)", Edges::rich, x -> x.table(b[0], b[1], 0, 0), BAD);
            is("table(" + b[0] + ", " + b[1] + ", -1, -1), ahead of NONE", rich().table(b[0], b[1], -1, -1), BAD);
        }
    }

    static void p14None() {
        says("Promise 14", "NONE: i, j.");
        int[] none = {-1, 3, 4, MIN, MAX};
        for (int i : none) {
            stays("table(2, 3, " + i + ", 0)", Edges::rich, x -> x.table(2, 3, i, 0), NONE);
            stays("table(2, 3, 0, " + i + ")", Edges::rich, x -> x.table(2, 3, 0, i), NONE);
        }
        OrbitDesigns x = ring(6);
        is("i of as many as k has, not t", x.table(2, 3, 3, 0), NONE);
        is("j of as many as k has, not t", x.table(2, 3, 0, 3), 0);
        is("table(0, 0, 0, 1)", x.table(0, 0, 0, 1), NONE);
        is("table(0, 0, 1, 0)", x.table(0, 0, 1, 0), NONE);
    }
}
