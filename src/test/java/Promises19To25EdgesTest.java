/** The boundary cases of promises 19 to 25: block, blockOf, blocks, share, meets, turned, parted. */
public final class Promises19To25EdgesTest extends Edges {
    public static void main(String[] args) {
        runAll(Promises19To25EdgesTest.class);
    }

    /** The fourteen BLOCKS of four of eight POINTS: three POINTS lie together in just one. */
    private static OrbitDesigns fourteenBlocks() {
        OrbitDesigns x = blocks(8, 4);
        int[] fano = {11, 22, 44, 49, 69, 88, 98};
        for (int set : fano) {
            x.block(set | 128);
            x.block(127 & ~set);
        }
        return x;
    }

    static void p19BlockComesAndGoes() {
        says("Promise 19", "A set is a BLOCK then, or, if it was one, no more: how many BLOCKS there are.");
        OrbitDesigns x = new OrbitDesigns();
        is("the first", x.block(3), 1);
        is("another", x.block(24), 2);
        same("both", row(x), "3 24");
        is("the first goes", x.block(3), 1);
        same("the other stays", row(x), "24");
        is("the last goes", x.block(24), 0);
        is("none then", x.blockOf(0), ABSENT);
        is("K stays", x.blocks(0), 2);
        is("it comes again", x.block(3), 1);
        OrbitDesigns y = blocks(5, 2, 3, 5, 6, 9, 10, 12, 17, 18, 20, 24);
        is("all ten", y.count(2), 10);
        is("the greatest goes", y.block(24), 9);
        OrbitDesigns z = blocks(8, 8);
        is("WHOLE", z.block(255), 1);
        is("WHOLE goes", z.block(255), 0);
        is("of K 1", blocks(8, 1).block(128), 1);
    }

    static void p19None() {
        says("Promise 19", "NONE: no set of K POINTS.");
        int[] none = {0, 1, 3, 15, 31, 63, 64, 67, 112, 128, 224, 256, 448, -1, -7, MIN, MIN + 3, MAX};
        for (int set : none) stays("block(" + set + ") of K 3, n 6", Edges::rich, x -> x.block(set), NONE);
        is("the greatest of three", rich().block(56), 6);
        is("beyond n", of(3).block(9), NONE);
        is("of K 8, n 8", blocks(8, 8).block(254), NONE);
        is("of K 8, beyond", blocks(8, 8).block(511), NONE);
        is("the empty set of K 1", blocks(5, 1).block(0), NONE);
        is("bits beyond WHOLE alone make K", blocks(5, 1).block(32), NONE);
    }

    static void p20LeastFirst() {
        says("Promise 20", "BLOCK i, the least first, from 0;");
        OrbitDesigns x = new OrbitDesigns();
        int[] sets = {24, 3, 17, 10};
        for (int set : sets) x.block(set);
        is("blockOf(0)", x.blockOf(0), 3);
        is("blockOf(1)", x.blockOf(1), 10);
        is("blockOf(2)", x.blockOf(2), 17);
        is("blockOf(3)", x.blockOf(3), 24);
        is("the last of 70", blocksOfAll().blockOf(69), 240);
        is("WHOLE of 8", blocks(8, 8, 255).blockOf(0), 255);
    }

    private static OrbitDesigns blocksOfAll() {
        OrbitDesigns x = byHand(8, 21345678, 23456781);
        x.choose(4, 1);
        return x;
    }

    static void p20NotAsMany() {
        says("Promise 20", "-5: there are not as many.");
        stays("blockOf(7) of seven", Edges::rich, x -> x.blockOf(7), ABSENT);
        stays("blockOf(max)", Edges::rich, x -> x.blockOf(MAX), ABSENT);
        is("blockOf(6) of seven", rich().blockOf(6), 56);
        is("of none", new OrbitDesigns().blockOf(0), ABSENT);
        is("blockOf(70) of 70", blocksOfAll().blockOf(70), ABSENT);
    }

    static void p20None() {
        says("Promise 20", "NONE: i below 0.");
        int[] below = {-1, -2, MIN};
        for (int i : below) stays("blockOf(" + i + ")", Edges::rich, x -> x.blockOf(i), NONE);
        is("of none", new OrbitDesigns().blockOf(-1), NONE);
    }

    static void p21K() {
        says("Promise 21", "K (what 0)");
        is("at first", new OrbitDesigns().blocks(0), 2);
        is("1", blocks(5, 1).blocks(0), 1);
        is("n", blocks(8, 8).blocks(0), 8);
    }

    static void p21HowMany() {
        says("Promise 21", "how many BLOCKS (1)");
        is("at first", new OrbitDesigns().blocks(1), 0);
        is("one", blocks(5, 2, 3).blocks(1), 1);
        is("70", blocksOfAll().blocks(1), 70);
    }

    static void p21Strength() {
        says("Promise 21", "STRENGTH (2)");
        is("none: K", new OrbitDesigns().blocks(2), 2);
        is("none: K 1", blocks(5, 1).blocks(2), 1);
        is("none: K n", blocks(8, 8).blocks(2), 8);
        is("one BLOCK: 0", blocks(5, 2, 3).blocks(2), 0);
        is("WHOLE: K", blocks(8, 8, 255).blocks(2), 8);
        is("all of 70: K", blocksOfAll().blocks(2), 4);
        is("all of 70 but one", lessTheLast().blocks(2), 0);
        is("all POINTS alone: 1", blocks(3, 1, 1, 2, 4).blocks(2), 1);
        is("all POINTS but one: 0", blocks(3, 1, 1, 2).blocks(2), 0);
        is("two of four", blocks(4, 2, 3, 12).blocks(2), 1);
        is("seven of seven", fano().blocks(2), 2);
        is("fourteen of eight", fourteenBlocks().blocks(2), 3);
    }

    private static OrbitDesigns lessTheLast() {
        OrbitDesigns x = blocksOfAll();
        x.block(240);
        return x;
    }

    static void p21PointsInSomeBlock() {
        says("Promise 21", "how many POINTS lie in some BLOCK (3).");
        is("none", new OrbitDesigns().blocks(3), 0);
        is("of one", blocks(5, 2, 3).blocks(3), 2);
        is("of two that meet", blocks(5, 2, 3, 6).blocks(3), 3);
        is("all of five", blocks(5, 2, 3, 12, 24).blocks(3), 5);
        is("WHOLE of eight", blocks(8, 8, 255).blocks(3), 8);
        is("the last alone", blocks(8, 1, 128).blocks(3), 1);
    }

    static void p21None() {
        says("Promise 21", "NONE.");
        int[] whats = {-1, 4, 5, MIN, MAX};
        for (int what : whats) stays("blocks(" + what + ")", Edges::rich, x -> x.blocks(what), NONE);
    }

    static void p22Share() {
        says("Promise 22", "SHARE; -5.");
        is("share(0)", fano().share(0), 7);
        is("share(1)", fano().share(1), 3);
        is("share(2)", fano().share(2), 1);
        is("share(K), uneven", fano().share(3), ABSENT);
        is("share(K) of all", blocksOfAll().share(4), 1);
        is("share(0) of one", blocks(5, 2, 3).share(0), 1);
        is("share(1) of one", blocks(5, 2, 3).share(1), ABSENT);
        is("share(8) of WHOLE", blocks(8, 8, 255).share(8), 1);
        is("share(3) of fourteen", fourteenBlocks().share(3), 1);
        is("share(4) of fourteen", fourteenBlocks().share(4), ABSENT);
        stays("an uneven one", Edges::rich, x -> x.share(2), ABSENT);
    }

    static void p22Bad() {
        says("Promise 22", "BAD: s.");
        int[] bad = {-1, 4, 5, 6, MIN, MAX};
        for (int s : bad) stays("share(" + s + ") of K 3", Edges::rich, x -> x.share(s), BAD);
        is("share(2) of K 1", blocks(5, 1).share(2), BAD);
        is("share(1) of K 1", blocks(5, 1).share(1), 0);
        is("share(9) of K 8", blocks(8, 8).share(9), BAD);
        is("share(8) of K 8", blocks(8, 8).share(8), 0);
    }

    static void p23Meets() {
        says("Promise 23", "MEETS.");
        is("the empty set, 0", fano().meets(0, 0), 7);
        is("the empty set, 1", fano().meets(0, 1), 0);
        is("WHOLE, K", fano().meets(127, 3), 7);
        is("WHOLE, less", fano().meets(127, 2), 0);
        is("a BLOCK, all of it", fano().meets(11, 3), 1);
        is("a BLOCK, one", fano().meets(11, 1), 6);
        is("j 8", fano().meets(127, 8), 0);
        is("j 8 of K 8", blocks(8, 8, 255).meets(255, 8), 1);
        is("j 7 of K 8", blocks(8, 8, 255).meets(127, 7), 1);
        is("without BLOCKS", of(8).meets(255, 0), 0);
    }

    static void p23None() {
        says("Promise 23", "NONE: set;");
        int[] none = {-1, 64, 256, MIN, MAX};
        for (int set : none) {
            stays("meets(" + set + ", 0)", Edges::rich, x -> x.meets(set, 0), NONE);
            is("ahead of BAD", rich().meets(set, 9), NONE);
        }
        is("meets(256, 0) of n 8", of(8).meets(256, 0), NONE);
    }

    static void p23Bad() {
        says("Promise 23", "BAD: j.");
        int[] bad = {-1, 9, 10, MIN, MAX};
        for (int j : bad) {
            stays("meets(0, " + j + ")", Edges::rich, x -> x.meets(0, j), BAD);
            is("without BLOCKS", of(3).meets(7, j), BAD);
        }
        is("j 8 of n 3 is told", of(3).meets(7, 8), 0);
        is("j 0", rich().meets(0, 0), 7);
    }

    static void p24Turned() {
        says("Promise 24", "BLOCKS are TURNED (K is n less K then): how many there are.");
        OrbitDesigns x = blocks(5, 4, 15, 30);
        is("K n less 1", x.turned(), 2);
        is("K 1 then", x.blocks(0), 1);
        same("its BLOCKS", row(x), "1 16");
        is("back", x.turned(), 2);
        is("K 4 then", x.blocks(0), 4);
        same("its BLOCKS", row(x), "15 30");
        OrbitDesigns y = blocks(8, 4, 15, 240, 51);
        is("K a half of n", y.turned(), 3);
        is("K stays 4", y.blocks(0), 4);
        same("its BLOCKS", row(y), "15 204 240");
        OrbitDesigns z = new OrbitDesigns();
        is("none", z.turned(), 0);
        is("K 3 then", z.blocks(0), 3);
        is("none then", z.blockOf(0), ABSENT);
        is("all of 70", blocksOfAll().turned(), 70);
    }

    static void p24StateKIsN() {
        says("Promise 24", "STATE: K is n.");
        for (int n = 3; n <= 8; n++) {
            int m = n;
            stays("K n, WHOLE, n " + m, () -> blocks(m, m, (1 << m) - 1), OrbitDesigns::turned, STATE);
            stays("K n, no BLOCKS, n " + m, () -> blocks(m, m), OrbitDesigns::turned, STATE);
            is("K n less 1", blocks(m, m - 1).turned(), 0);
            is("K 1", blocks(m, 1, 1).turned(), 1);
        }
    }

    static void p25HowManyWith() {
        says("Promise 25", "PARTED by a POINT: how many are WITH it (what 0)");
        stays("of the ring", Edges::rich, x -> x.parted(0, 0), 4);
        is("none at all", new OrbitDesigns().parted(0, 0), 0);
        is("none WITH it", blocks(5, 2, 3).parted(4, 0), 0);
        is("all WITH it", blocks(5, 2, 3, 5).parted(0, 0), 2);
        is("the last POINT", blocks(8, 1, 128).parted(7, 0), 1);
        is("35 of 70", blocksOfAll().parted(7, 0), 35);
        is("WHOLE", blocks(3, 3, 7).parted(2, 0), 1);
    }

    static void p25StrengthWith() {
        says("Promise 25", "STRENGTH of those (1; -5 there are none)");
        stays("of the ring", Edges::rich, x -> x.parted(0, 1), 0);
        is("none at all", new OrbitDesigns().parted(0, 1), ABSENT);
        is("none WITH it", blocks(5, 2, 3).parted(4, 1), ABSENT);
        is("of the empty set alone", blocks(5, 1, 1).parted(0, 1), 0);
        is("K less 1 of all", blocksOfAll().parted(7, 1), 3);
        is("WHOLE", blocks(8, 8, 255).parted(0, 1), 7);
        is("of all pairs", blocks(3, 2, 3, 5, 6).parted(1, 1), 1);
        is("of a path", blocks(3, 2, 3, 5).parted(1, 1), 0);
        is("fano", fano().parted(6, 1), 1);
        is("fourteen", fourteenBlocks().parted(7, 1), 2);
    }

    static void p25StrengthWithout() {
        says("Promise 25", "of those WITHOUT it (2; -5 there are none, or K is n).");
        stays("of the ring", Edges::rich, x -> x.parted(0, 2), 0);
        is("none at all", new OrbitDesigns().parted(0, 2), ABSENT);
        is("none WITHOUT it", blocks(5, 2, 3, 5).parted(0, 2), ABSENT);
        is("K is n", blocks(8, 8, 255).parted(0, 2), ABSENT);
        is("K is n, no BLOCKS", blocks(8, 8).parted(0, 2), ABSENT);
        is("K n less 1: K", blocks(5, 4, 30).parted(0, 2), 4);
        is("K of all", blocksOfAll().parted(7, 2), 4);
        is("one BLOCK WITHOUT it", blocks(5, 2, 3).parted(4, 2), 0);
        is("all POINTS but one", blocks(3, 1, 1, 2).parted(2, 2), 1);
        is("fano", fano().parted(6, 2), 1);
        is("fourteen", fourteenBlocks().parted(7, 2), 2);
    }

    static void p25None() {
        says("Promise 25", "NONE.");
        int[] noPoint = {-1, 6, 7, 8, MIN, MAX};
        for (int p : noPoint) {
            for (int what = 0; what < 3; what++) {
                int w = what;
                stays("parted(" + p + ", " + w + ")", Edges::rich, x -> x.parted(p, w), NONE);
            }
        }
        int[] whats = {-1, 3, 4, MIN, MAX};
        for (int what : whats) {
            stays("parted(0, " + what + ")", Edges::rich, x -> x.parted(0, what), NONE);
            is("ahead of -5", blocks(8, 8).parted(0, what), NONE);
        }
        is("parted(8, 0) of n 8", of(8).parted(8, 0), NONE);
        is("parted(32, 0), a POINT told as a far bit", of(8).parted(32, 0), NONE);
    }
}
