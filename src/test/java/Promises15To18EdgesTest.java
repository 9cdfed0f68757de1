/** The boundary cases of promises 15 to 18: solved, solution, cover, choose. */
public final class Promises15To18EdgesTest extends Edges {
    public static void main(String[] args) {
        runAll(Promises15To18EdgesTest.class);
    }

    /** Two POINTS of six that change places: there are 14 ORBITS of 3, 11 of 2. */
    private static OrbitDesigns fourteen() {
        OrbitDesigns x = of(6);
        x.way(3, 0);
        return x;
    }

    /** 15 ORBITS of 2. */
    private static OrbitDesigns fifteen() {
        OrbitDesigns x = of(6);
        x.block(3);
        x.keep();
        x.image();
        x.block(12);
        return x;
    }

    private static OrbitDesigns seven() {
        OrbitDesigns x = ring(7);
        x.way(2, 2);
        return x;
    }

    private static final int[][] BAD_SIZES = {{-1, 3}, {7, 3}, {3, -1}, {3, 7}, {4, 3}, {1, 0}, {6, 5}, {7, 7}, {-1, -1},
        {MIN, 3}, {MAX, 3}, {2, MIN}, {2, MAX}};
    private static final int[] BAD_AIMS = {0, -1, 71, 72, MIN, MAX};

    static void p15HowManySolve() {
        says("Promise 15", "CHOICES that SOLVE: how many (what 0)");
        is("none", seven().solved(2, 3, 6, 0), 0);
        is("one", seven().solved(2, 3, 5, 0), 1);
        is("two", seven().solved(2, 3, 1, 0), 2);
        is("252, of ten ORBITS", of(5).solved(0, 2, 5, 0), 252);
        is("2252, of fourteen ORBITS", fourteen().solved(0, 3, 10, 0), 2252);
        is("the least k", of(3).solved(0, 0, 1, 0), 1);
        is("the greatest k", of(8).solved(8, 8, 1, 0), 1);
        is("k n, m 2", of(8).solved(8, 8, 2, 0), 0);
    }

    static void p15TheFirst() {
        says("Promise 15", "the first (1; -5).");
        is("none", seven().solved(2, 3, 6, 1), ABSENT);
        is("one", seven().solved(2, 3, 5, 1), 7);
        is("the less of two", seven().solved(2, 3, 1, 1), 2);
        is("the least of 252", of(5).solved(0, 2, 5, 1), 31);
        is("all ten", of(5).solved(0, 2, 10, 1), 1023);
        is("the last alone", ring(6).solved(0, 3, 2, 1), 8);
    }

    static void p15SmallestAndGreatestM() {
        says("Promise 15", "BAD: t, k (as table()), m;");
        for (int aim : BAD_AIMS) {
            for (int what = 0; what < 2; what++) {
                int w = what;
                stays("solved(2, 3, " + aim + ", " + w + ")", Edges::rich, x -> x.solved(2, 3, aim, w), BAD);
            }
            is("ahead of NONE", rich().solved(2, 3, aim, 9), BAD);
            is("ahead of STATE", fifteen().solved(1, 2, aim, 0), BAD);
        }
        is("m 1", rich().solved(3, 3, 1, 0), 1);
        is("m 70", rich().solved(3, 3, 70, 0), 0);
        is("m 70 of 70", ring(8).solved(0, 4, 70, 1), 1023);
    }

    static void p15BadSizes() {
        says("Promise 15", "BAD: t, k (as table())");
        for (int[] b : BAD_SIZES) {
            stays("solved(" + b[0] + ", " + b[1] + ", 1, 0)", Edges::rich, x -> x.solved(b[0], b[1], 1, 0), BAD);
            is("ahead of NONE", rich().solved(b[0], b[1], 1, -1), BAD);
        }
        is("t above k, ahead of STATE", fifteen().solved(3, 2, 1, 0), BAD);
    }

    static void p15None() {
        says("Promise 15", "NONE: what;");
        int[] whats = {-1, 2, 3, MIN, MAX};
        for (int what : whats) {
            stays("solved(2, 3, 1, " + what + ")", Edges::rich, x -> x.solved(2, 3, 1, what), NONE);
            is("ahead of STATE", fifteen().solved(1, 2, 1, what), NONE);
        }
    }

    static void p15MoreThanFourteenOrbits() {
        says("Promise 15", "STATE: more than 14 ORBITS of k.");
        is("fifteen ORBITS", fifteen().orbits(2), 15);
        for (int what = 0; what < 2; what++) {
            int w = what;
            stays("solved of fifteen", Promises15To18EdgesTest::fifteen, x -> x.solved(1, 2, 1, w), STATE);
            is("of 70", of(8).solved(1, 4, 1, w), STATE);
        }
        is("fourteen ORBITS", fourteen().orbits(3), 14);
        is("all fourteen", fourteen().solved(0, 3, 20, 1), 16383);
        is("one of fourteen", fourteen().solved(0, 3, 1, 0), 8);
        is("of t more than 14 are none too many", of(6).solved(2, 5, 4, 1), 63);
        is("of t 70, of k few", of(8).solved(4, 8, 1, 0), 1);
        is("of t 56, k 8 ORBITS", of(8).solved(3, 7, 5, 1), 255);
    }

    static void p16SolutionsFromTheFirstToTheLast() {
        says("Promise 16", "CHOICE i (from 0) that SOLVES;");
        is("first of two", seven().solution(2, 3, 1, 0), 2);
        is("last of two", seven().solution(2, 3, 1, 1), 4);
        is("first of 252", of(5).solution(0, 2, 5, 0), 31);
        is("last of 252", of(5).solution(0, 2, 5, 251), 31 << 5);
        for (int i = 0; i < 10; i++) is("one of ten: " + i, of(5).solution(0, 2, 1, i), 1 << i);
    }

    static void p16NotAsMany() {
        says("Promise 16", "-5: there are not as many.");
        stays("where none SOLVES", Edges::rich, x -> x.solution(3, 3, 2, 0), ABSENT);
        stays("max", Edges::rich, x -> x.solution(3, 3, 1, MAX), ABSENT);
        is("behind the last of two", seven().solution(2, 3, 1, 2), ABSENT);
        is("behind the last of 252", of(5).solution(0, 2, 5, 252), ABSENT);
        is("behind the last of ten", of(5).solution(0, 2, 1, 10), ABSENT);
        is("behind one", seven().solution(2, 3, 5, 1), ABSENT);
    }

    static void p16Bad() {
        says("Promise 16", "BAD likewise;");
        for (int[] b : BAD_SIZES) {
            stays("solution(" + b[0] + ", " + b[1] + ", 1, 0)", Edges::rich, x -> x.solution(b[0], b[1], 1, 0), BAD);
            is("ahead of NONE", rich().solution(b[0], b[1], 1, -1), BAD);
        }
        for (int aim : BAD_AIMS) {
            stays("solution(2, 3, " + aim + ", 0)", Edges::rich, x -> x.solution(2, 3, aim, 0), BAD);
            is("ahead of NONE", rich().solution(2, 3, aim, -1), BAD);
            is("ahead of STATE", fifteen().solution(1, 2, aim, 0), BAD);
        }
        is("m 70 of 70", ring(8).solution(0, 4, 70, 0), 1023);
        is("m 1", rich().solution(3, 3, 1, 0), 7);
    }

    static void p16NoneBelow0() {
        says("Promise 16", "NONE: i below 0;");
        int[] below = {-1, -2, MIN};
        for (int i : below) {
            stays("solution(2, 3, 1, " + i + ")", Edges::rich, x -> x.solution(2, 3, 1, i), NONE);
            is("ahead of STATE", fifteen().solution(1, 2, 1, i), NONE);
            is("where none SOLVES", seven().solution(2, 3, 6, i), NONE);
        }
    }

    static void p16State() {
        says("Promise 16", "STATE likewise.");
        stays("solution of fifteen", Promises15To18EdgesTest::fifteen, x -> x.solution(1, 2, 1, 0), STATE);
        is("beyond all that could be", fifteen().solution(1, 2, 1, MAX), STATE);
        is("fourteen", fourteen().solution(0, 3, 20, 0), 16383);
        is("fourteen, none", fourteen().solution(0, 3, 21, 0), ABSENT);
    }

    static void p17FewestSets() {
        says("Promise 17", "The FEWEST that COVER: how many sets (what 0; -5 none COVERS)");
        is("one ORBIT of seven", seven().cover(2, 3, 0), 7);
        is("all there are", seven().cover(3, 3, 0), 35);
        is("of t 0 one set", of(5).cover(0, 2, 0), 1);
        is("of k 0", of(5).cover(0, 0, 0), 1);
        is("of k n", of(8).cover(8, 8, 0), 1);
        is("three pairs for five POINTS", of(5).cover(1, 2, 0), 3);
        is("fourteen ORBITS", fourteen().cover(3, 3, 0), 20);
        for (int n = 3; n <= 8; n++) {
            for (int k = 0; k <= n; k++) {
                OrbitDesigns x = ring(n);
                for (int t = 0; t <= k; t++) is("all ORBITS COVER, so some do", x.cover(t, k, 0) > 0 ? 1 : 0, 1);
            }
        }
    }

    static void p17TheChoice() {
        says("Promise 17", "the CHOICE (1; -5).");
        is("the first of two alike", seven().cover(2, 3, 1), 2);
        is("all there are", seven().cover(3, 3, 1), 7);
        is("of t 0 the first", of(5).cover(0, 2, 1), 1);
        is("of k 0", of(5).cover(0, 0, 1), 1);
        is("0 4, 0 3 and 1 2 come first", of(5).cover(1, 2, 1), 76);
        is("fourteen ORBITS", fourteen().cover(3, 3, 1), 16383);
        is("a later one with fewer sets", ring(6).cover(1, 3, 1), 8);
        is("has two sets", ring(6).cover(1, 3, 0), 2);
    }

    static void p17Bad() {
        says("Promise 17", "BAD likewise;");
        for (int[] b : BAD_SIZES) {
            for (int what = 0; what < 2; what++) {
                int w = what;
                stays("cover(" + b[0] + ", " + b[1] + ", " + w + ")", Edges::rich, x -> x.cover(b[0], b[1], w), BAD);
            }
            is("ahead of NONE", rich().cover(b[0], b[1], 2), BAD);
        }
        is("ahead of STATE", fifteen().cover(3, 2, 0), BAD);
    }

    static void p17None() {
        says("Promise 17", "NONE: what;");
        int[] whats = {-1, 2, MIN, MAX};
        for (int what : whats) {
            stays("cover(2, 3, " + what + ")", Edges::rich, x -> x.cover(2, 3, what), NONE);
            is("ahead of STATE", fifteen().cover(1, 2, what), NONE);
        }
    }

    static void p17State() {
        says("Promise 17", "STATE likewise.");
        for (int what = 0; what < 2; what++) {
            int w = what;
            stays("cover of fifteen", Promises15To18EdgesTest::fifteen, x -> x.cover(1, 2, w), STATE);
        }
        is("of t more than 14 are none too many", of(6).cover(2, 5, 0), 3);
    }

    static void p18SizesOfBlocks() {
        says("Promise 18", "K becomes k (1 .. n)");
        for (int n = 3; n <= 8; n++) {
            OrbitDesigns x = of(n);
            is("k 1", x.choose(1, 1), 1);
            is("K", x.blocks(0), 1);
            is("k n", x.choose(n, 1), 1);
            is("K", x.blocks(0), n);
            is("the BLOCK", x.blockOf(0), (1 << n) - 1);
            is("k 1, none", x.choose(1, 0), 0);
            is("K", x.blocks(0), 1);
        }
    }

    static void p18BlocksOfAChoice() {
        says("Promise 18", "BLOCKS all sets of the ORBITS of a CHOICE (of ORBITS 0 .. 30): how many they are.");
        OrbitDesigns x = ring(5);
        is("no ORBIT", x.choose(2, 0), 0);
        is("none then", x.blockOf(0), ABSENT);
        is("the last ORBIT", x.choose(2, 2), 5);
        same("its sets", row(x), "5 9 10 18 20");
        is("the first one", x.choose(2, 1), 5);
        same("those that were are none", row(x), "3 6 12 17 24");
        is("all ORBITS", x.choose(2, 3), 10);
        OrbitDesigns y = of(8);
        is("ORBIT 30 of 70", y.choose(4, 1 << 30), 1);
        is("its set", y.blockOf(0), y.orbit(4, 30, 0));
        is("ORBITS 0 .. 30", y.choose(4, MAX), 31);
        is("the last of them", y.blockOf(30), y.orbit(4, 30, 0));
        is("the 28 ORBITS that there are", y.choose(2, (1 << 28) - 1), 28);
        is("all of 70 in one", byHand(8, 21345678, 23456781).choose(4, 1), 70);
    }

    static void p18BadK() {
        says("Promise 18", "BAD: k;");
        int[] bad = {0, -1, 7, 8, MIN, MAX};
        for (int k : bad) {
            stays("choose(" + k + ", 1)", Edges::rich, x -> x.choose(k, 1), BAD);
            stays("choose(" + k + ", 0)", Edges::rich, x -> x.choose(k, 0), BAD);
            is("ahead of NONE", rich().choose(k, -1), BAD);
        }
        is("k 9 of n 8", of(8).choose(9, 0), BAD);
        is("k 4 of n 3", of(3).choose(4, 0), BAD);
    }

    static void p18None() {
        says("Promise 18", "NONE: orbits below 0, bits of none.");
        int[] below = {-1, -2, MIN, MIN + 1};
        for (int choice : below) stays("choose(3, " + choice + ")", Edges::rich, x -> x.choose(3, choice), NONE);
        int[] ofNone = {8, 9, 15, 16, 1 << 30, MAX};
        for (int choice : ofNone) stays("choose(3, " + choice + ") of three ORBITS", Edges::rich, x -> x.choose(3, choice), NONE);
        is("all three", rich().choose(3, 7), 20);
        is("bit 28 of 28", of(8).choose(2, 1 << 28), NONE);
        is("bit 1 of one", of(8).choose(8, 2), NONE);
        is("bit 0 of one", of(8).choose(8, 1), 1);
        is("the sign of 70", of(8).choose(4, MIN), NONE);
    }
}
