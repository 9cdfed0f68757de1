/** The boundary cases of promises 26 to 31: keep, design, alike, selves, unlike, lots. */
public final class Promises26To31EdgesTest extends Edges {
    public static void main(String[] args) {
        runAll(Promises26To31EdgesTest.class);
    }

    private static OrbitDesigns fourDesigns() {
        OrbitDesigns x = of(5);
        int[] sets = {3, 5, 6, 9};
        for (int set : sets) {
            x.block(set);
            x.keep();
        }
        return x;
    }

    /** DESIGNS of K and these BLOCKS, one for each row. */
    private static OrbitDesigns keeping(int n, int k, int[]... designs) {
        OrbitDesigns x = of(n);
        for (int[] sets : designs) {
            x.choose(k, 0);
            for (int set : sets) x.block(set);
            x.keep();
        }
        return x;
    }

    static void p26NumbersFrom0To3() {
        says("Promise 26", "BLOCKS are kept: the number of the DESIGN.");
        OrbitDesigns x = of(5);
        for (int d = 0; d < 4; d++) is("DESIGN " + d, x.keep(), d);
        for (int d = 0; d < 4; d++) is("without BLOCKS", x.design(d, 1), 0);
        OrbitDesigns y = blocks(5, 2, 3, 24);
        is("kept", y.keep(), 0);
        is("BLOCKS stay", y.count(2), 2);
        y.block(3);
        y.choose(5, 1);
        is("the DESIGN stays as it was", y.design(0, 1), 2);
        is("and its K", y.design(0, 0), 2);
        y.points(5);
        is("from 0 again", y.keep(), 0);
    }

    static void p26Full() {
        says("Promise 26", "FULL.");
        stays("keep() of four", Promises26To31EdgesTest::fourDesigns, OrbitDesigns::keep, FULL);
        OrbitDesigns x = fourDesigns();
        x.choose(4, 31);
        is("FULL", x.keep(), FULL);
        for (int d = 0; d < 4; d++) is("DESIGN " + d + " is as it was", x.design(d, 1), d + 1);
        is("K of the last", x.design(3, 0), 2);
        is("there is no DESIGN 4", x.design(4, 0), NONE);
    }

    static void p27OfADesign() {
        says("Promise 27", "Of a DESIGN its K (what 0), how many BLOCKS it has (1).");
        OrbitDesigns x = blocks(8, 8, 255);
        x.keep();
        x.choose(1, 0);
        x.keep();
        x.choose(1, 255);
        x.keep();
        is("K 8", x.design(0, 0), 8);
        is("one", x.design(0, 1), 1);
        is("K 1", x.design(1, 0), 1);
        is("none", x.design(1, 1), 0);
        is("eight", x.design(2, 1), 8);
        OrbitDesigns y = byHand(8, 21345678, 23456781);
        y.choose(4, 1);
        y.keep();
        is("70", y.design(0, 1), 70);
    }

    static void p27None() {
        says("Promise 27", "NONE.");
        int[] noDesign = {-1, 2, 3, 4, MIN, MAX};
        for (int d : noDesign) {
            stays("design(" + d + ", 0) of two", Edges::rich, x -> x.design(d, 0), NONE);
            stays("design(" + d + ", 1) of two", Edges::rich, x -> x.design(d, 1), NONE);
        }
        int[] whats = {-1, 2, 3, MIN, MAX};
        for (int what : whats) stays("design(0, " + what + ")", Edges::rich, x -> x.design(0, what), NONE);
        is("design(4, 0) of four", fourDesigns().design(4, 0), NONE);
        is("design(0, 0) of none", of(5).design(0, 0), NONE);
    }

    static void p28AlikeOrNot() {
        says("Promise 28", "Whether two DESIGNS are ALIKE: 1, 0.");
        OrbitDesigns x = keeping(5, 2, new int[] {3, 6}, new int[] {24, 17}, new int[] {3, 24}, new int[] {3, 6, 5});
        is("one and itself", x.alike(0, 0), 1);
        is("the last and itself", x.alike(3, 3), 1);
        is("two paths", x.alike(0, 1), 1);
        is("the other way about", x.alike(1, 0), 1);
        is("a path and two lines", x.alike(0, 2), 0);
        is("all of the one, but the other has more", x.alike(0, 3), 0);
        is("the other way about", x.alike(3, 0), 0);
        OrbitDesigns y = keeping(7, 3, new int[] {11, 22, 44, 88, 49, 98, 69}, new int[] {13, 26, 52, 104, 81, 35, 70},
                new int[] {7, 14, 28, 56, 112, 97, 67});
        is("n 7, alike", y.alike(0, 1), 1);
        is("n 7, not alike", y.alike(0, 2), 0);
        OrbitDesigns z = keeping(3, 1, new int[] {1}, new int[] {4}, new int[] {1, 2});
        is("n 3, the first and the last POINT", z.alike(0, 1), 1);
        is("n 3, one and two", z.alike(0, 2), 0);
        stays("alike(0, 1) asks alone", Edges::rich, r -> r.alike(0, 1), 0);
    }

    static void p28NoneEither() {
        says("Promise 28", "NONE: either;");
        int[] none = {-1, 2, 3, 4, MIN, MAX};
        for (int d : none) {
            stays("alike(" + d + ", 0) of two", Edges::rich, x -> x.alike(d, 0), NONE);
            stays("alike(0, " + d + ") of two", Edges::rich, x -> x.alike(0, d), NONE);
            stays("alike(" + d + ", 0) of n 8, ahead of STATE", Edges::rich8, x -> x.alike(d, 0), NONE);
            stays("alike(0, " + d + ") of n 8, ahead of STATE", Edges::rich8, x -> x.alike(0, d), NONE);
        }
        is("alike(0, 0) of none", of(5).alike(0, 0), NONE);
        is("alike(4, 4) of four", fourDesigns().alike(4, 4), NONE);
    }

    static void p28StateOfEight() {
        says("Promise 28", "STATE: n is 8.");
        stays("alike(0, 0) of n 8", Edges::rich8, x -> x.alike(0, 0), STATE);
        OrbitDesigns x = of(8);
        x.keep();
        x.keep();
        is("without BLOCKS", x.alike(0, 1), STATE);
        OrbitDesigns y = of(7);
        y.keep();
        is("not of n 7", y.alike(0, 0), 1);
    }

    static void p29Selves() {
        says("Promise 29", "SELVES.");
        int[] all = {6, 24, 120, 720, 5040};
        for (int n = 3; n <= 7; n++) {
            OrbitDesigns x = of(n);
            x.keep();
            is("without BLOCKS, n " + n, x.selves(0), all[n - 3]);
            x.choose(n, 1);
            x.keep();
            is("WHOLE, n " + n, x.selves(1), all[n - 3]);
        }
        is("fano", keeping(7, 3, new int[] {11, 22, 44, 49, 69, 88, 98}).selves(0), 168);
        is("a ring of three, one POINT at each", keeping(6, 2, new int[] {3, 6, 12, 24, 10, 36}).selves(0), 6);
        is("one way alone", keeping(6, 2, new int[] {3, 5, 6, 10, 24, 36}).selves(0), 1);
        is("one POINT of three", keeping(3, 1, new int[] {2}).selves(0), 2);
        stays("asks alone", Edges::rich, x -> x.selves(0), 12);
    }

    static void p29None() {
        says("Promise 29", "NONE;");
        int[] none = {-1, 2, 3, 4, MIN, MAX};
        for (int d : none) {
            stays("selves(" + d + ") of two", Edges::rich, x -> x.selves(d), NONE);
            stays("selves(" + d + ") of n 8, ahead of STATE", Edges::rich8, x -> x.selves(d), NONE);
        }
        is("selves(0) of none", of(5).selves(0), NONE);
        is("selves(4) of four", fourDesigns().selves(4), NONE);
    }

    static void p29StateOfEight() {
        says("Promise 29", "STATE: n is 8.");
        stays("selves(0) of n 8", Edges::rich8, x -> x.selves(0), STATE);
        OrbitDesigns x = of(8);
        x.keep();
        is("without BLOCKS", x.selves(0), STATE);
    }

    private static OrbitDesigns swapping(int n) {
        OrbitDesigns x = of(n);
        x.way(3, 0);
        return x;
    }

    static void p30Unlike() {
        says("Promise 30", "UNLIKE.");
        is("none SOLVES", of(5).unlike(1, 2, 3), 0);
        is("one SOLVES", of(5).unlike(2, 2, 1), 1);
        is("twelve, all alike", of(5).unlike(1, 2, 2), 1);
        is("20 of which three are unlike", of(4).unlike(0, 2, 3), 3);
        is("24 of which four are unlike", swapping(5).unlike(0, 2, 5), 4);
        is("the empty set", of(3).unlike(0, 0, 1), 1);
        is("WHOLE", of(3).unlike(0, 3, 1), 1);
        is("WHOLE of six", of(6).unlike(6, 6, 1), 1);
        stays("asks alone", Edges::rich, x -> x.unlike(3, 3, 1), 1);
    }

    static void p30Bad() {
        says("Promise 30", "BAD (as solved());");
        int[][] sizes = {{-1, 3}, {7, 3}, {3, -1}, {3, 7}, {4, 3}, {1, 0}, {MIN, 3}, {2, MAX}};
        for (int[] b : sizes) {
            stays("unlike(" + b[0] + ", " + b[1] + ", 1)", Edges::rich, x -> x.unlike(b[0], b[1], 1), BAD);
        }
        int[] aims = {0, -1, 71, MIN, MAX};
        for (int m : aims) {
            stays("unlike(2, 3, " + m + ")", Edges::rich, x -> x.unlike(2, 3, m), BAD);
            is("ahead of STATE: n 8", of(8).unlike(1, 2, m), BAD);
            is("ahead of STATE: fifteen", of(6).unlike(1, 2, m), BAD);
        }
        is("t above k, ahead of STATE", of(8).unlike(3, 2, 1), BAD);
        is("k 9, ahead of STATE", of(8).unlike(3, 9, 1), BAD);
        is("m 70", of(5).unlike(2, 2, 70), 0);
        is("m 1", of(5).unlike(2, 2, 1), 1);
    }

    static void p30State() {
        says("Promise 30", "STATE: n above 6, more than 14 ORBITS of k, more than 24 that SOLVE.");
        is("n 7, though few SOLVE", ring(7).unlike(1, 2, 2), STATE);
        is("n 8, though one SOLVES", of(8).unlike(8, 8, 1), STATE);
        is("n 6", ring(6).unlike(1, 1, 1), 1);
        is("fifteen ORBITS", of(6).unlike(1, 2, 5), STATE);
        is("fourteen ORBITS", swapping(6).orbits(3), 14);
        is("fourteen ORBITS, one SOLVES", swapping(6).unlike(0, 3, 20), 1);
        is("25 SOLVE", swapping(6).solved(0, 2, 2, 0), 25);
        is("25 are more than 24", swapping(6).unlike(0, 2, 2), STATE);
        is("24 SOLVE", swapping(5).solved(0, 2, 5, 0), 24);
        is("24 are not", swapping(5).unlike(0, 2, 5), 4);
        is("252 SOLVE", of(5).unlike(0, 2, 5), STATE);
        stays("n 8", Edges::rich8, x -> x.unlike(1, 2, 1), STATE);
    }

    /** LOTS of n POINTS without WAYS, where each set is an ORBIT, by the document's words. */
    private static int lots(int points, int k, int n, int z, int what) {
        int even = 0;
        int together = 0;
        int seed = z;
        for (int time = 0; time < n; time++) {
            int[] with = new int[points];
            for (int set = 0; set < 1 << points; set++) {
                if (Integer.bitCount(set) != k) continue;
                seed = (int) (seed * 1103515245L + 12345L);
                if ((seed & 0x7fffffffL) / 65536 % 2 != 1) continue;
                together++;
                for (int p = 0; p < points; p++) with[p] += set >> p & 1;
            }
            boolean same = true;
            for (int p = 0; p < points; p++) same &= with[p] == with[0];
            if (same) even++;
        }
        return what == 0 ? even : together;
    }

    private static final int[] SEEDS = {0, 1, -1, 9, MIN, MAX, 65535, 65536, 1103515245, -12345};

    static void p31Lots() {
        says("Promise 31", "LOTS: of how many (what 0), how many sets (1).");
        for (int z : SEEDS) {
            int[] points = {3, 5, 8};
            for (int m : points) {
                OrbitDesigns x = of(m);
                for (int k = 0; k <= m; k++) {
                    String of = "lots(" + k + ", .., " + z + ") of n " + m;
                    is(of + ", once, even", x.lots(k, 1, z, 0), lots(m, k, 1, z, 0));
                    is(of + ", once, sets", x.lots(k, 1, z, 1), lots(m, k, 1, z, 1));
                    is(of + ", twenty times, even", x.lots(k, 20, z, 0), lots(m, k, 20, z, 0));
                    is(of + ", twenty times, sets", x.lots(k, 20, z, 1), lots(m, k, 20, z, 1));
                }
            }
        }
        is("k 0 is even each time", of(5).lots(0, 20, 3, 0), 20);
        is("k n is even each time", of(8).lots(8, 20, 3, 0), 20);
        for (int what = 0; what < 2; what++) {
            int w = what;
            stays("nothing stays", Edges::rich, x -> x.lots(3, 20, -7, w), rich().lots(3, 20, -7, w));
        }
    }

    static void p31Bad() {
        says("Promise 31", "BAD: k, n;");
        int[] sizes = {-1, 7, 8, MIN, MAX};
        for (int k : sizes) {
            stays("lots(" + k + ", 1, 0, 0)", Edges::rich, x -> x.lots(k, 1, 0, 0), BAD);
            is("ahead of NONE", rich().lots(k, 1, 0, 2), BAD);
        }
        int[] times = {0, -1, 21, 22, MIN, MAX};
        for (int n : times) {
            stays("lots(3, " + n + ", 0, 0)", Edges::rich, x -> x.lots(3, n, 0, 0), BAD);
            is("ahead of NONE", rich().lots(3, n, 0, -1), BAD);
        }
    }

    static void p31None() {
        says("Promise 31", "NONE: what.");
        int[] whats = {-1, 2, 3, MIN, MAX};
        for (int what : whats) stays("lots(3, 1, 0, " + what + ")", Edges::rich, x -> x.lots(3, 1, 0, what), NONE);
    }
}
