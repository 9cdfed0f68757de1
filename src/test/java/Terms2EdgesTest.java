/** The boundary cases of 'Terms' 2: TABLE, CHOICES, BLOCKS, DESIGNS, LOTS, THE TEXT, THE IMAGE. */
public final class Terms2EdgesTest extends Edges {
    public static void main(String[] args) {
        runAll(Terms2EdgesTest.class);
    }

    private static OrbitDesigns swapping(int n) {
        OrbitDesigns x = of(n);
        x.way(3, 0);
        return x;
    }

    private static OrbitDesigns keeping(int n, int k, int[]... designs) {
        OrbitDesigns x = of(n);
        for (int[] sets : designs) {
            x.choose(k, 0);
            for (int set : sets) x.block(set);
            x.keep();
        }
        return x;
    }

    static void tableNoMoreThanK() {
        says("Terms 2", "TABLE of t and k (t no more than k): in how many sets of ORBIT j of k the least set of ORBIT i of t"
                + " lies.");
        OrbitDesigns x = ring(6);
        int[][] two = {{2, 1, 1, 0}, {1, 1, 1, 1}, {0, 2, 2, 0}};
        for (int i = 0; i < 3; i++) {
            for (int j = 0; j < 4; j++) is("table(2, 3, " + i + ", " + j + ")", x.table(2, 3, i, j), two[i][j]);
        }
        for (int k = 0; k <= 6; k++) {
            is("t k, " + k, x.table(k, k, 0, 0), 1);
            is("t k + 1, " + k, x.table(k + 1, k, 0, 0), BAD);
            is("t 0, k " + k, x.table(0, k, 0, 0), x.orbit(k, 0, 1));
        }
    }

    static void choicesAsBits() {
        says("Terms 2", "CHOICES of ORBITS of k are told as bits (ORBIT i: bit i), the least as bits first.");
        OrbitDesigns x = ring(6);
        int[] sets = {6, 6, 6, 2};
        for (int i = 0; i < 4; i++) is("ORBIT " + i + " alone", x.choose(3, 1 << i), sets[i]);
        is("none", x.choose(3, 0), 0);
        is("all", x.choose(3, 15), 20);
        int[] twelve = {3, 5, 6};
        for (int i = 0; i < 3; i++) is("CHOICE " + i + " of 12 sets", x.solution(0, 3, 12, i), twelve[i]);
        is("no more", x.solution(0, 3, 12, 3), ABSENT);
    }

    static void solvesFrom1To70() {
        says("Terms 2", "A CHOICE SOLVES t, k and a number m (1 .. 70), if for each ORBIT i of t the numbers of TABLE of i and"
                + " all chosen ORBITS make m together.");
        is("m 1", of(5).solved(2, 2, 1, 1), 1023);
        is("m 70", ring(8).solved(0, 4, 70, 1), 1023);
        is("m 69, one less than all", ring(8).solved(0, 4, 69, 0), 0);
        is("m 0, though none chosen makes 0", of(5).solved(2, 2, 0, 0), BAD);
        is("m 71", of(5).solved(2, 2, 71, 0), BAD);
        is("for each ORBIT, not for one alone", ring(6).solved(2, 3, 1, 0), 0);
        is("for each", ring(6).solved(2, 3, 4, 1), 15);
        is("for each", ring(6).solved(2, 3, 2, 0), 0);
    }

    static void coversWith1OrMoreEach() {
        says("Terms 2", "A CHOICE COVERS t and k, if they make 1 or more each;");
        OrbitDesigns x = ring(6);
        is("each of three in one that is in it alone", x.cover(3, 3, 1), 15);
        is("a pair that ORBITS 0 and 3 leave", x.cover(2, 3, 1), 2);
        is("just 1 each is enough", x.cover(1, 3, 1), 8);
        is("of t 0", x.cover(0, 3, 1), 8);
        is("more than 1 each is fine", ring(5).cover(1, 4, 1), 1);
    }

    static void fewestFirstOfLikeOnes() {
        says("Terms 2", "the FEWEST that COVER: of those CHOICES the one with the fewest sets together, of like ones the first.");
        is("two ORBITS of five each", ring(5).cover(1, 2, 1), 1);
        is("behind one of six sets, the first of three alike", threeRoundAbout().cover(1, 2, 1), 9);
        is("four sets", threeRoundAbout().cover(1, 2, 0), 4);
        is("fewer sets, though later", ring(6).cover(1, 2, 1), 4);
        is("three sets", ring(6).cover(1, 2, 0), 3);
        is("each alone", of(3).cover(1, 1, 1), 7);
        is("three of three alike", of(3).cover(0, 1, 1), 1);
        is("the first two of three pairs", of(3).cover(1, 2, 1), 3);
    }

    /** The ORBITS of 2 are 3, 5, 6 and 9, 10, 12 and 17, 18, 20 and 24: CHOICES 6, 9, 10, 12 and more COVER all POINTS. */
    private static OrbitDesigns threeRoundAbout() {
        return byHand(5, 23145);
    }

    static void fewestWhateverWasAskedAhead() {
        says("Terms 2", "the FEWEST that COVER:");
        OrbitDesigns x = ring(6);
        for (int k = 0; k <= 6; k++) {
            for (int t = k; t >= 0; t--) {
                is("sets, t " + t + ", k " + k, x.cover(t, k, 0), ring(6).cover(t, k, 0));
                is("CHOICE, t " + t + ", k " + k, x.cover(t, k, 1), ring(6).cover(t, k, 1));
                is("that SOLVE, t " + t + ", k " + k, x.solved(t, k, 2, 1), ring(6).solved(t, k, 2, 1));
            }
        }
        OrbitDesigns y = of(5);
        is("each pair alone", y.cover(2, 2, 1), 1023);
        is("then each POINT", y.cover(1, 2, 1), 76);
        is("then the empty set", y.cover(0, 2, 1), 1);
        is("then each pair again", y.cover(2, 2, 1), 1023);
    }

    static void bothOnlyOfFourteen() {
        says("Terms 2", "(Both only of 14 ORBITS of k or fewer.)");
        is("fourteen", swapping(6).orbits(3), 14);
        is("SOLVE", swapping(6).solved(3, 3, 1, 1), 16383);
        is("COVER", swapping(6).cover(3, 3, 1), 16383);
        is("fifteen", of(6).orbits(2), 15);
        is("SOLVE", of(6).solved(2, 2, 1, 1), STATE);
        is("the CHOICES that SOLVE", of(6).solution(2, 2, 1, 0), STATE);
        is("COVER", of(6).cover(2, 2, 1), STATE);
        is("of t more than fourteen", of(6).solved(3, 5, 3, 1), 63);
    }

    static void blocksAtFirst() {
        says("Terms 2", "BLOCKS: sets of K POINTS each (K 2, no BLOCKS at first).");
        OrbitDesigns x = new OrbitDesigns();
        is("K", x.blocks(0), 2);
        is("BLOCKS", x.blocks(1), 0);
        is("a set of one", x.block(1), NONE);
        is("a set of three", x.block(7), NONE);
        is("a set of two", x.block(3), 1);
    }

    static void blocksByOrbitsAndByHand() {
        says("Terms 2", "They are chosen by ORBITS, come and go by hand.");
        OrbitDesigns x = ring(5);
        x.choose(2, 1);
        is("one of the ORBIT goes", x.block(3), 4);
        is("one of another comes", x.block(5), 5);
        same("BLOCKS", row(x), "5 6 12 17 24");
        is("chosen anew", x.choose(2, 1), 5);
        same("BLOCKS", row(x), "3 6 12 17 24");
    }

    static void strengthFrom0ToK() {
        says("Terms 2", "STRENGTH: the greatest t (0 .. K) so that for each s of 0 .. t all sets of s POINTS lie in as many"
                + " BLOCKS (each set of s in as many as each other one).");
        is("0", blocks(5, 2, 3).blocks(2), 0);
        is("1", blocks(4, 2, 3, 12).blocks(2), 1);
        is("2 of 3", fano().blocks(2), 2);
        is("K", blocks(3, 2, 3, 5, 6).blocks(2), 2);
        is("K n", blocks(3, 3, 7).blocks(2), 3);
        is("the last POINT has fewer", blocks(5, 4, 15).blocks(2), 0);
        is("K n less 1, all", blocks(5, 4, 15, 23, 27, 29, 30).blocks(2), 4);
        is("K n less 1, all but one", blocks(5, 4, 15, 23, 27, 29).blocks(2), 0);
    }

    static void shareFrom0ToK() {
        says("Terms 2", "SHARE of s (0 .. K): in how many BLOCKS each set of s POINTS lies, if in as many each; -5.");
        int[] seven = {7, 3, 1, ABSENT};
        for (int s = 0; s <= 3; s++) is("share(" + s + ")", fano().share(s), seven[s]);
        is("share(-1)", fano().share(-1), BAD);
        is("share(4)", fano().share(4), BAD);
        is("one in none, the others in one", blocks(4, 1, 1, 2, 4).share(1), ABSENT);
        is("none in any", blocks(4, 1).share(1), 0);
    }

    static void meetsFrom0To8() {
        says("Terms 2", "MEETS: how many BLOCKS have just j POINTS (0 .. 8) in common with a set.");
        OrbitDesigns x = blocks(8, 8, 255);
        int set = 0;
        for (int j = 0; j <= 8; j++) {
            is("just " + j, x.meets(set, j), 1);
            is("not " + (j + 1) % 9, x.meets(set, (j + 1) % 9), 0);
            set = set * 2 + 1;
        }
        is("j 9", x.meets(255, 9), BAD);
        is("j -1", x.meets(255, -1), BAD);
    }

    static void wayHolds() {
        says("Terms 2", "A WAY HOLDS, if it takes each BLOCK to a BLOCK.");
        OrbitDesigns x = ring(5);
        is("none", x.wayOf(0, 2), 1);
        x.choose(2, 2);
        is("an ORBIT", x.wayOf(0, 2), 1);
        x.block(20);
        is("less its last", x.wayOf(0, 2), 0);
        x.block(20);
        x.block(3);
        is("and one more", x.wayOf(0, 2), 0);
    }

    static void turned() {
        says("Terms 2", "TURNED: each BLOCK becomes the set of all POINTS it doesn't have.");
        for (int n = 3; n <= 8; n++) {
            int whole = (1 << n) - 1;
            OrbitDesigns x = blocks(n, 1, 1, 1 << n - 1);
            is("two of n " + n, x.turned(), 2);
            is("all but the last POINT", x.blockOf(0), whole >> 1);
            is("all but the first", x.blockOf(1), whole - 1);
            is("and back", x.turned(), 2);
            is("the first", x.blockOf(0), 1);
            is("the last", x.blockOf(1), 1 << n - 1);
        }
        OrbitDesigns y = blocks(4, 2, 3, 12);
        y.turned();
        same("two that change places", row(y), "3 12");
    }

    static void partedWithAndWithout() {
        says("Terms 2", "PARTED by a POINT: WITH it are the BLOCKS that have it, that POINT left out, on all other POINTS;"
                + " WITHOUT it all other BLOCKS, on those POINTS, too.");
        OrbitDesigns x = blocks(4, 2, 3, 5, 9, 6);
        is("WITH 0", x.parted(0, 0), 3);
        is("on all other POINTS they are even", x.parted(0, 1), 1);
        is("WITHOUT 0 is one", x.parted(0, 2), 0);
        is("WITH 3", x.parted(3, 0), 1);
        is("WITHOUT 3 each other POINT has two", x.parted(3, 2), 2);
        is("the BLOCKS stay", x.count(2), 4);
        is("K stays", x.blocks(0), 2);
    }

    static void partedStrength() {
        says("Terms 2", "STRENGTH of these: as of BLOCKS, with sets of those other POINTS alone (0 .. K less 1, 0 .. K).");
        is("WITH, K less 1 is 0", blocks(3, 1, 4).parted(2, 1), 0);
        is("WITH, K less 1", blocks(5, 5, 31).parted(4, 1), 4);
        is("WITH, 0", blocks(5, 3, 7).parted(0, 1), 0);
        is("WITHOUT, K", blocks(5, 4, 15).parted(4, 2), 4);
        is("WITHOUT, K 1", blocks(3, 1, 1, 2).parted(2, 2), 1);
        is("WITHOUT, 0", blocks(3, 1, 1).parted(2, 2), 0);
        is("of the first POINT", blocks(5, 4, 30).parted(0, 2), 4);
    }

    static void designsFourAtMost() {
        says("Terms 2", "DESIGNS 0 .. 3 (4 at most) are BLOCKS that were kept.");
        OrbitDesigns x = of(5);
        for (int d = 0; d < 4; d++) is("DESIGN " + d, x.keep(), d);
        is("a fifth", x.keep(), FULL);
        is("DESIGN 3", x.design(3, 0), 2);
        is("DESIGN 4", x.design(4, 0), NONE);
        is("DESIGN -1", x.design(-1, 0), NONE);
    }

    static void alikeByAnyWay() {
        says("Terms 2", "Two are ALIKE, if some way to take POINTS to POINTS, each to another one, takes the BLOCKS of the one to"
                + " those of the other one (all of them, and to no others).");
        OrbitDesigns x = keeping(5, 2, new int[] {3}, new int[] {24}, new int[] {3, 24}, new int[] {3, 5});
        is("by a way that is no WAY", x.alike(0, 1), 1);
        is("itself", x.alike(2, 2), 1);
        is("to more: others are left", x.alike(0, 2), 0);
        is("to fewer: not all", x.alike(2, 0), 0);
        is("as many, otherwise", x.alike(2, 3), 0);
        OrbitDesigns y = keeping(6, 2, new int[] {3, 6, 12, 24, 48, 33}, new int[] {3, 6, 5, 24, 48, 40});
        is("a ring of six, two rings of three", y.alike(0, 1), 0);
        OrbitDesigns z = of(5);
        z.choose(1, 1);
        z.keep();
        z.choose(4, 1);
        z.keep();
        is("another K", z.alike(0, 1), 0);
    }

    static void selvesOfADesign() {
        says("Terms 2", "SELVES of a DESIGN: how many ways to take POINTS take its BLOCKS to its BLOCKS.");
        is("one way alone", keeping(6, 2, new int[] {3, 5, 6, 10, 24, 36}).selves(0), 1);
        is("all of 7", keeping(7, 7, new int[] {127}).selves(0), 5040);
        is("a ring of six", keeping(6, 2, new int[] {3, 6, 12, 24, 48, 33}).selves(0), 12);
        is("one POINT of seven", keeping(7, 1, new int[] {64}).selves(0), 720);
        is("two of three", keeping(3, 1, new int[] {1, 4}).selves(0), 2);
    }

    /** How many arrangements of the POINTS from p on take the sets to themselves, by trying all. */
    private static int selvesByTrying(int n, int p, int[] to, int used, int[] sets) {
        if (p == n) {
            for (int set : sets) {
                int moved = 0;
                for (int q = 0; q < n; q++) if ((set >> q & 1) != 0) moved |= 1 << to[q];
                boolean found = false;
                for (int other : sets) found |= other == moved;
                if (!found) return 0;
            }
            return 1;
        }
        int ways = 0;
        for (int q = 0; q < n; q++) {
            if ((used >> q & 1) != 0) continue;
            to[p] = q;
            ways += selvesByTrying(n, p + 1, to, used | 1 << q, sets);
        }
        return ways;
    }

    static void selvesOfAllDesignsOfPairs() {
        says("Terms 2", "SELVES of a DESIGN: how many ways to take POINTS take its BLOCKS to its BLOCKS.");
        for (int n = 3; n <= 5; n++) {
            int pairs = n * (n - 1) / 2;
            for (int choice = 0; choice < 1 << pairs; choice++) {
                OrbitDesigns x = of(n);
                x.choose(2, choice);
                x.keep();
                int[] sets = new int[x.count(2)];
                for (int i = 0; i < sets.length; i++) sets[i] = x.blockOf(i);
                is("CHOICE " + choice + " of pairs, n " + n, x.selves(0), selvesByTrying(n, 0, new int[n], 0, sets));
            }
        }
        for (int choice = 1; choice < 1 << 20; choice = choice * 3 + 1) {
            OrbitDesigns x = of(6);
            x.choose(3, choice);
            x.keep();
            int[] sets = new int[x.count(2)];
            for (int i = 0; i < sets.length; i++) sets[i] = x.blockOf(i);
            is("CHOICE " + choice + " of three of six", x.selves(0), selvesByTrying(6, 0, new int[6], 0, sets));
        }
    }

    static void alikeAndSelvesOfSevenOrLess() {
        says("Terms 2", "(Both of n 7 or less.)");
        for (int n = 3; n <= 8; n++) {
            OrbitDesigns x = keeping(n, n, new int[] {(1 << n) - 1});
            is("ALIKE of n " + n, x.alike(0, 0), n == 8 ? STATE : 1);
            is("SELVES of n " + n, x.selves(0) > 0 ? 1 : x.selves(0), n == 8 ? STATE : 1);
        }
    }

    static void unlikeOfSixAnd24() {
        says("Terms 2", "UNLIKE of t, k and m: how many of all CHOICES that SOLVE are left, if of those whose sets are ALIKE only"
                + " one is counted (n 6 or less; of 24 that SOLVE or fewer).");
        is("none", of(5).unlike(1, 2, 3), 0);
        is("ten of one set, all ALIKE", of(5).unlike(0, 2, 1), 1);
        is("24", swapping(5).unlike(0, 2, 5), 4);
        is("25", swapping(6).unlike(0, 2, 2), STATE);
        is("n 6", ring(6).unlike(6, 6, 1), 1);
        is("n 7", ring(7).unlike(7, 7, 1), STATE);
        is("n 6, ten pairs of ORBITS of 6 sets and so on", ring(6).unlike(0, 3, 6), 2);
    }

    /** z, one DRAW later. */
    private static int later(int z) {
        return (int) (z * 1103515245L + 12345L);
    }

    private static int drawBelowTwo(int z) {
        return (int) ((z & 0x7fffffffL) / 65536 % 2);
    }

    static void lotsByNumberOneToTwentyTimes() {
        says("Terms 2", "LOTS of k with a seed z: n times (1 .. 20) each ORBIT of k, by its number, is chosen, if a DRAW below 2 is"
                + " 1:");
        int[] sizes = {6, 6, 6, 2};
        for (int n = 1; n <= 20; n++) {
            for (int z = -3; z < 3; z++) {
                int seed = z;
                int together = 0;
                for (int i = 0; i < 4 * n; i++) {
                    seed = later(seed);
                    together += drawBelowTwo(seed) * sizes[i % 4];
                }
                is("lots(3, " + n + ", " + z + ", 1)", ring(6).lots(3, n, z, 1), together);
            }
        }
        is("n 0", ring(6).lots(3, 0, 1, 1), BAD);
        is("n 21", ring(6).lots(3, 21, 1, 1), BAD);
    }

    static void lotsNothingStays() {
        says("Terms 2", "of how many of these all POINTS lie in as many of the sets; how many sets there were, together (nothing"
                + " stays).");
        OrbitDesigns x = ring(6);
        x.choose(3, 1);
        int once = x.lots(3, 7, 5, 1);
        is("the same seed, the same sets", x.lots(3, 7, 5, 1), once);
        is("BLOCKS stay", x.count(2), 6);
        is("K stays", x.blocks(0), 3);
        is("each ORBIT of a ring is even", x.lots(3, 20, 5, 0), 20);
        int even = 0;
        int seed = 5;
        for (int time = 0; time < 20; time++) {
            int chosen = 0;
            for (int i = 0; i < 3; i++) {
                seed = later(seed);
                chosen += drawBelowTwo(seed);
            }
            if (chosen == 0 || chosen == 3) even++;
        }
        is("all POINTS or none", of(3).lots(1, 20, 5, 0), even);
    }

    static void drawWraps() {
        says("Terms 2", "A DRAW below m: z becomes z times 1103515245 plus 12345 (an int, wrapping); (z without its sign's bit, over"
                + " 65536, cut) modulo m.");
        int[] seeds = {0, 1, 2, -1, -2, MAX, MIN, 65536, -65536, 1 << 30, 123456789, -987654321};
        for (int z : seeds) {
            is("one ORBIT, one DRAW of " + z, of(5).lots(5, 1, z, 1), drawBelowTwo(later(z)));
            is("one ORBIT, two DRAWS of " + z, of(5).lots(5, 2, z, 1), drawBelowTwo(later(z)) + drawBelowTwo(later(later(z))));
        }
        boolean below0 = false;
        for (int z : seeds) below0 |= later(z) < 0 && drawBelowTwo(later(z)) == 1;
        is("one of them is below 0 and drawn", below0 ? 1 : 0, 1);
    }

    static void textOneToTwelveClauses() {
        says("Terms 2", "A set-up is read from THE TEXT (bytes, 100 at most): CLAUSES, 1 to 12, with ; between:");
        is("none", of(5).read(), -10);
        is("one", read(of(5), "n3"), 1);
        is("two", read(of(5), "n3;n4"), 2);
        is("twelve", read(of(5), "n3;n4;n3;n4;n3;n4;n3;n4;n3;n4;n3;n4"), 12);
        is("thirteen", read(of(5), "n3;n4;n3;n4;n3;n4;n3;n4;n3;n4;n3;n4;n3"), -10 - 35);
        is("a ; ahead", read(of(5), ";n3"), -10);
        is("a ; at the end", read(of(5), "n3;"), -10 - 3);
        is("two ; between", read(of(5), "n3;;n4"), -10 - 3);
        is("a , between", read(of(5), "n3,n4"), -10 - 2);
        OrbitDesigns x = of(5);
        for (int i = 0; i < 100; i++) x.feed('n');
        is("101 bytes", x.feed('n'), FULL);
    }

    static void clauseN() {
        says("Terms 2", "n DIGIT (as points());");
        for (int n = 0; n <= 9; n++) {
            OrbitDesigns x = rich();
            x.read();
            boolean fine = n >= 3 && n <= 8;
            is("n" + n, read(x, "n" + n), fine ? 1 : 0);
            is("POINTS then", x.count(0), fine ? n : 5);
            is("WAYS then", x.count(1), fine ? 0 : 1);
        }
        is("no DIGIT", read(of(5), "n"), -10 - 1);
        is("two", read(of(5), "n10"), -10 - 2);
        is("the byte behind 9", read(of(5), "n:"), -10 - 1);
        is("the byte ahead of 0", read(of(5), "n/"), -10 - 1);
    }

    static void clauseG() {
        says("Terms 2", "g DIGIT DIGIT (KIND, FIGURE, as way());");
        for (int kind = 0; kind <= 9; kind++) {
            for (int figure = 0; figure <= 9; figure++) {
                OrbitDesigns x = of(8);
                OrbitDesigns y = of(8);
                read(x, "g" + kind + figure);
                y.way(kind, figure);
                same("g" + kind + figure, setup(x), setup(y));
            }
        }
        is("g05", read(of(5), "g05"), 1);
        is("g50", read(of(5), "g50"), 0);
        is("a fifth", read(fourWays(5), "g05"), 0);
        is("no DIGIT", read(of(5), "g"), -10 - 1);
        is("one", read(of(5), "g0;g01"), -10 - 2);
        is("three", read(of(5), "g011"), -10 - 3);
    }

    static void clauseH() {
        says("Terms 2", "h and 3 to 8 DIGITS (as hand());");
        is("no DIGITS", read(of(3), "h"), -10 - 1);
        is("two DIGITS", read(of(3), "h12"), -10 - 3);
        is("two DIGITS and a ;", read(of(3), "h12;n3"), -10 - 3);
        is("three", read(of(3), "h231"), 1);
        is("eight", read(of(8), "h23456781"), 1);
        is("nine", read(of(8), "h234567812"), -10 - 9);
        is("three of eight", read(of(8), "h231"), 0);
        is("eight of three", read(of(3), "h23456781"), 0);
        is("not each once", read(of(3), "h233"), 0);
        is("a fifth", read(fourWays(3), "h231"), 0);
        OrbitDesigns x = of(8);
        read(x, "h23456781;h87654321");
        is("the first", digits(x, 0), 23456781);
        is("the second", digits(x, 1), 87654321);
        is("KIND", x.wayOf(1, 0), 5);
    }

    static void clauseK() {
        says("Terms 2", "k DIGIT DIGIT (K, an ORBIT: as choose() of that alone);");
        OrbitDesigns x = ring(6);
        is("the first", read(x, "k30"), 1);
        same("its sets", row(x), "7 14 28 35 49 56");
        is("the last, that alone", read(x, "k33"), 1);
        same("its sets", row(x), "21 42");
        is("beyond the last", read(x, "k34"), 0);
        same("as it was", row(x), "21 42");
        is("K 0", read(x, "k00"), 0);
        is("K n", read(x, "k60"), 1);
        is("K n + 1", read(x, "k70"), 0);
        is("K 9", read(x, "k90"), 0);
        is("K stays", x.blocks(0), 6);
        OrbitDesigns y = of(8);
        is("ORBIT 9", read(y, "k49"), 1);
        is("its set", y.blockOf(0), y.orbit(4, 9, 0));
        is("no DIGIT", read(of(5), "k"), -10 - 1);
        is("one", read(of(5), "k2"), -10 - 2);
        is("three", read(of(5), "k201"), -10 - 3);
    }

    static void clauseB() {
        says("Terms 2", "b and 1 to 8 DIGITS (POINTS; the set of these: as block() of it).");
        is("no DIGITS", read(of(8), "b"), -10 - 1);
        is("no DIGITS and a ;", read(of(8), "b;n3"), -10 - 1);
        is("one", read(blocks(8, 1), "b7"), 1);
        OrbitDesigns x = blocks(8, 8);
        is("eight", read(x, "b76543210"), 1);
        is("WHOLE", x.blockOf(0), 255);
        is("it goes", read(x, "b01234567"), 1);
        is("none then", x.count(2), 0);
        is("nine", read(blocks(8, 8), "b012345670"), -10 - 9);
        is("seven where K is 8", read(blocks(8, 8), "b0123456"), 0);
        is("POINT n", read(blocks(5, 1), "b5"), 0);
        is("POINT n - 1", read(blocks(5, 1), "b4"), 1);
        is("POINT 9", read(blocks(8, 1), "b9"), 0);
    }

    static void nothingElseBetween() {
        says("Terms 2", "Nothing else stands between (no blanks).");
        is("ahead", read(of(5), " n5"), -10);
        is("behind the letter", read(of(5), "n 5"), -10 - 1);
        is("behind the DIGIT", read(of(5), "n5 ;n6"), -10 - 2);
        is("behind the ;", read(of(5), "n5; n6"), -10 - 3);
        is("at the end", read(of(5), "n5 "), -10 - 2);
        is("a line's end", read(of(5), "n5\n"), -10 - 2);
        is("a byte of 0", read(of(5), "n5\0"), -10 - 2);
        is("a great letter", read(of(5), "N5"), -10);
        is("a sign ahead of a DIGIT", read(of(5), "n-5"), -10 - 1);
    }

    static void faultAtTheFirstByteThatCannotBe() {
        says("Terms 2", "The FAULT: the place of the first byte with which none begins so (the end of THE TEXT, if it ends too early).");
        String[] early = {"", "n", "g", "g0", "h", "h1", "h12", "k", "k1", "b", "n5;", "n5;h12", "n5;b"};
        for (String text : early) is("'" + text + "' ends too early", read(of(6), text), -10 - text.length());
        String[] last = {"x", "nx", "n5x", "gx", "g0x", "g00x", "hx", "h12x", "h123x", "h12345678x", "kx", "k1x", "k11x", "bx", "b0x",
            "b01234567x", "n5;x", "n5;;", "h12;", "n;", "g0;", "b;", "0", "n55", "g000", "k000", "h123456789", "b012345678"};
        for (String text : last) {
            is("the last of '" + text + "'", read(of(6), text), -10 - (text.length() - 1));
            is("what is behind does not count", read(of(6), text + "??;n"), -10 - (text.length() - 1));
        }
    }

    static void doneOneBehindTheOther() {
        says("Terms 2", "Without it they are done, one behind the other; those that would be refused aren't (of b: if one is no"
                + " POINT).");
        OrbitDesigns x = of(5);
        is("a POINT of those that come first", read(x, "b67;n8;b67;b08"), 2);
        same("BLOCKS", row(x), "192");
        is("n takes all away", read(x, "g01;k20;n4;b01"), 4);
        is("WAYS", x.count(1), 0);
        same("BLOCKS", row(x), "3");
        is("ORBITS of the WAYS that come first", read(x, "n4;k20;g01;k20"), 4);
        is("of the ring", x.count(2), 4);
        is("one POINT of three is none", read(blocks(6, 3), "b016"), 0);
        is("though two are left", read(blocks(6, 2), "b016"), 0);
        is("refused ones between others", read(of(5), "n9;g01;g60;h12345;h11111;k99;b01;b99"), 3);
        OrbitDesigns y = of(5);
        is("a FAULT at the end: none is done", read(y, "n8;g01;b01;x"), -10 - 11);
        is("POINTS", y.count(0), 5);
        is("WAYS", y.count(1), 0);
        is("BLOCKS", y.count(2), 0);
    }

    static void imageHolds() {
        says("Terms 2", "THE IMAGE: POINTS, WAYS, K, BLOCKS, DESIGNS.");
        OrbitDesigns x = fourWays(8);
        x.choose(8, 1);
        for (int d = 0; d < 4; d++) x.keep();
        x.image();
        String was = setup(x);
        x.points(3);
        x.choose(1, 7);
        for (int w = 0; w < 4; w++) x.way(0, 9);
        x.keep();
        is("undo()", x.undo(), 1);
        same("all five", setup(x), was);
        int[] kinds = {0, 1, 3, 4};
        int[] figures = {1, 2, 0, 1};
        for (int w = 0; w < 4; w++) {
            is("KIND of " + w, x.wayOf(w, 0), kinds[w]);
            is("FIGURE of " + w, x.wayOf(w, 1), figures[w]);
        }
        is("POINTS", x.count(0), 8);
        is("WAYS", x.count(1), 4);
        is("K", x.blocks(0), 8);
        is("BLOCKS", x.blockOf(0), 255);
        is("DESIGNS", x.count(3), 4);
        is("FULL of WAYS again", x.way(0, 1), FULL);
        is("FULL of DESIGNS again", x.keep(), FULL);
    }
}
