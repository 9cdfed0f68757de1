/** Promises 15 to 18, 30 and 31: solved, solution, cover, choose, unlike, lots. */
public final class ChoicesTest {
    private static final Due DUE = new Due("ChoicesTest");

    public static void main(String[] args) {
        solved();
        solvedRefusals();
        solution();
        cover();
        choose();
        unlike();
        lots();
        DUE.end();
    }

    /** Seven POINTS, THE GROUP of 21: ORBITS of 3 are 7 (21 sets), 11 (7) and 13 (7). */
    private static OrbitDesigns seven() {
        OrbitDesigns x = Due.of(7);
        x.way(0, 1);
        x.way(2, 2);
        return x;
    }

    private static void solved() {
        OrbitDesigns x = seven();
        DUE.is("of 1", x.solved(2, 3, 1, 0), 2);
        DUE.is("first of 1", x.solved(2, 3, 1, 1), 2);
        DUE.is("of 2", x.solved(2, 3, 2, 0), 1);
        DUE.is("first of 2", x.solved(2, 3, 2, 1), 6);
        DUE.is("of 5", x.solved(2, 3, 5, 0), 1);
        DUE.is("first of 5", x.solved(2, 3, 5, 1), 7);
        DUE.is("of 6", x.solved(2, 3, 6, 0), 0);
        DUE.is("first of 6", x.solved(2, 3, 6, 1), -5);
        OrbitDesigns y = Due.of(5);
        DUE.is("five of ten pairs", y.solved(0, 2, 5, 0), 252);
        DUE.is("rings of five", y.solved(1, 2, 2, 0), 12);
        DUE.is("all pairs", y.solved(2, 2, 1, 1), 1023);
        y.way(3, 0);
        DUE.is("seven orbits", y.orbits(2), 7);
        DUE.is("of 3 orbits of 1 each", y.solved(1, 2, 4, 0), 1);
        OrbitDesigns z = Due.of(8);
        z.way(0, 1);
        DUE.is("70 of 70", z.solved(0, 4, 70, 0), 1);
        DUE.is("all of them", z.solved(0, 4, 70, 1), 1023);
        DUE.is("of all 8 in the whole", Due.of(8).solved(4, 8, 1, 0), 1);
    }

    private static void solvedRefusals() {
        OrbitDesigns x = Due.of(6);
        DUE.is("t -1", x.solved(-1, 3, 1, 0), -2);
        DUE.is("k 7", x.solved(1, 7, 1, 0), -2);
        DUE.is("t above k", x.solved(4, 3, 1, 9), -2);
        DUE.is("m 0", x.solved(1, 3, 0, 9), -2);
        DUE.is("m 71", x.solved(1, 3, 71, 0), -2);
        DUE.is("what 2", x.solved(1, 3, 1, 2), -1);
        DUE.is("what -1", x.solved(1, 3, 1, -1), -1);
        DUE.is("fifteen", x.solved(1, 2, 1, 0), -3);
        DUE.is("m 70", x.solved(1, 5, 70, 0), 0);
        x.way(3, 0);
        DUE.is("fourteen orbits of 3", x.orbits(3), 14);
        DUE.is("not refused", x.solved(0, 3, 20, 1), (1 << 14) - 1);
        DUE.is("how many", x.solved(0, 3, 20, 0), 1);
        DUE.is("solution", x.solution(0, 3, 20, 0), (1 << 14) - 1);
        DUE.is("cover", x.cover(3, 3, 1), (1 << 14) - 1);
        DUE.is("unlike", x.unlike(0, 3, 20), 1);
        OrbitDesigns y = Due.of(7);
        y.hand(1324567);
        y.hand(1235467);
        DUE.is("more than fourteen of 3", y.orbits(3) > 14 ? 1 : 0, 1);
        DUE.is("refused", y.solved(2, 3, 1, 0), -3);
    }

    private static void solution() {
        OrbitDesigns x = seven();
        DUE.is("first", x.solution(2, 3, 1, 0), 2);
        DUE.is("second", x.solution(2, 3, 1, 1), 4);
        DUE.is("third", x.solution(2, 3, 1, 2), -5);
        DUE.is("max", x.solution(2, 3, 1, Integer.MAX_VALUE), -5);
        DUE.is("i -1", x.solution(2, 3, 1, -1), -1);
        DUE.is("t 4", x.solution(4, 3, 1, -1), -2);
        DUE.is("m 71", x.solution(2, 3, 71, 0), -2);
        DUE.is("m 0", x.solution(2, 3, 0, 0), -2);
        OrbitDesigns y = Due.of(6);
        DUE.is("i -1 ahead of STATE", y.solution(2, 3, 1, -1), -1);
        DUE.is("STATE", y.solution(2, 3, 1, 0), -3);
        OrbitDesigns z = Due.of(5);
        int seen = 0;
        for (int choice = 0; choice < 1024; choice++) {
            if (Integer.bitCount(choice) == 9) DUE.is("nine of ten", z.solution(0, 2, 9, seen++), choice);
        }
        DUE.is("no more", z.solution(0, 2, 9, seen), -5);
    }

    private static void cover() {
        OrbitDesigns x = seven();
        DUE.is("sets", x.cover(2, 3, 0), 7);
        DUE.is("first of like ones", x.cover(2, 3, 1), 2);
        DUE.is("of 3", x.cover(3, 3, 0), 35);
        DUE.is("of 3, all", x.cover(3, 3, 1), 7);
        DUE.is("of 0", x.cover(0, 3, 0), 7);
        DUE.is("t 4", x.cover(4, 3, 9), -2);
        DUE.is("k 8", x.cover(2, 8, 0), -2);
        DUE.is("what 2", x.cover(2, 3, 2), -1);
        DUE.is("what -1", x.cover(2, 3, -1), -1);
        OrbitDesigns y = Due.of(6);
        DUE.is("STATE", y.cover(2, 3, 0), -3);
        DUE.is("what ahead of STATE", y.cover(2, 3, 2), -1);
        y.way(0, 1);
        DUE.is("one orbit", y.cover(2, 3, 0), 6);
        DUE.is("the first of two", y.cover(2, 3, 1), 2);
        OrbitDesigns z = Due.of(5);
        DUE.is("three pairs for five points", z.cover(1, 2, 0), 3);
        DUE.is("the least as bits", z.cover(1, 2, 1), leastCoverOfFive());
    }

    private static int leastCoverOfFive() {
        int[] pairs = {3, 5, 6, 9, 10, 12, 17, 18, 20, 24};
        for (int choice = 0; choice < 1024; choice++) {
            int all = 0;
            for (int i = 0; i < 10; i++) if ((choice >> i & 1) == 1) all |= pairs[i];
            if (all == 31 && Integer.bitCount(choice) == 3) return choice;
        }
        return -5;
    }

    private static void choose() {
        OrbitDesigns x = seven();
        DUE.is("choose(3, 2)", x.choose(3, 2), 7);
        DUE.is("K", x.blocks(0), 3);
        DUE.is("the first", x.blockOf(0), 11);
        DUE.is("choose(3, 5)", x.choose(3, 5), 28);
        DUE.is("the old ones go", x.blockOf(1), 13);
        DUE.is("choose(0, 1)", x.choose(0, 1), -2);
        DUE.is("choose(8, 1)", x.choose(8, 1), -2);
        DUE.is("choose(-1, -1)", x.choose(-1, -1), -2);
        DUE.is("choose(3, 8)", x.choose(3, 8), -1);
        DUE.is("choose(3, -1)", x.choose(3, -1), -1);
        DUE.is("choose(3, min)", x.choose(3, Integer.MIN_VALUE), -1);
        DUE.is("nothing changed", x.count(2), 28);
        DUE.is("choose(7, 0)", x.choose(7, 0), 0);
        DUE.is("K is 7", x.blocks(0), 7);
        DUE.is("choose(7, 1)", x.choose(7, 1), 1);
        OrbitDesigns y = Due.of(8);
        DUE.is("31 orbits of 70", y.choose(4, Integer.MAX_VALUE), 31);
        DUE.is("bit 30", y.choose(4, 1 << 30), 1);
        DUE.is("orbit 30", y.blockOf(0), y.orbit(4, 30, 0));
        DUE.is("bit 0 alone", y.choose(4, 1), 1);
        DUE.is("is 15", y.blockOf(0), 15);
        DUE.is("28 orbits", y.choose(2, (1 << 28) - 1), 28);
        DUE.is("bit 28 of 28", y.choose(2, 1 << 28), -1);
        DUE.is("bit 30 of 28", y.choose(2, 1 << 30), -1);
    }

    private static void unlike() {
        OrbitDesigns x = Due.of(5);
        DUE.is("twelve rings of five are alike", x.unlike(1, 2, 2), 1);
        DUE.is("252 are too many", x.unlike(0, 2, 5), -3);
        DUE.is("nine of ten", x.unlike(0, 2, 9), 1);
        DUE.is("none solves", x.unlike(1, 2, 3), 0);
        x.points(6);
        DUE.is("more than 14 orbits", x.unlike(1, 2, 1), -3);
        DUE.is("t above k", x.unlike(3, 2, 1), -2);
        DUE.is("k 7", x.unlike(3, 7, 1), -2);
        DUE.is("m 0", x.unlike(1, 2, 0), -2);
        DUE.is("m 71", x.unlike(1, 2, 71), -2);
        x.way(0, 2);
        DUE.is("some solve", x.solved(1, 2, 2, 0), 4);
        DUE.is("unlike ones", x.unlike(1, 2, 2), 2);
        x.points(5);
        x.way(3, 0);
        DUE.is("24 solve", x.solved(0, 2, 5, 0), 24);
        DUE.is("24 are not too many", x.unlike(0, 2, 5), 4);
        x.points(6);
        x.way(3, 0);
        DUE.is("25 solve", x.solved(0, 2, 2, 0), 25);
        DUE.is("25 are too many", x.unlike(0, 2, 2), -3);
        x.points(7);
        x.way(0, 1);
        DUE.is("few solve", x.solved(1, 2, 2, 0), 3);
        DUE.is("n 7", x.unlike(1, 2, 2), -3);
        DUE.is("n 7, m 0", x.unlike(1, 2, 0), -2);
        OrbitDesigns y = Due.of(4);
        DUE.is("20 of 3 of 6", y.solved(0, 2, 3, 0), 20);
        DUE.is("kinds of three lines of four", y.unlike(0, 2, 3), 3);
        OrbitDesigns z = Due.of(3);
        DUE.is("two of three", z.unlike(0, 1, 2), 1);
        DUE.is("one whole", z.unlike(0, 3, 1), 1);
        DUE.is("the empty set", z.unlike(0, 0, 1), 1);
    }

    private static void lots() {
        OrbitDesigns x = seven();
        DUE.is("even", x.lots(3, 5, 9, 0), 5);
        DUE.is("together", x.lots(3, 5, 9, 1), 126);
        OrbitDesigns y = Due.of(5);
        y.block(3);
        int[] seeds = {0, 1, 9, -1, 12345, Integer.MIN_VALUE, Integer.MAX_VALUE};
        for (int z : seeds) {
            for (int k = 0; k <= 5; k++) {
                DUE.is("even of " + k, y.lots(k, 20, z, 0), byHand(k, 20, z, 0));
                DUE.is("sets of " + k, y.lots(k, 20, z, 1), byHand(k, 20, z, 1));
                DUE.is("one time of " + k, y.lots(k, 1, z, 1), byHand(k, 1, z, 1));
            }
        }
        DUE.is("nothing stays", y.count(2), 1);
        DUE.is("K stays", y.blocks(0), 2);
        DUE.is("k 6", y.lots(6, 1, 0, 9), -2);
        DUE.is("k -1", y.lots(-1, 1, 0, 0), -2);
        DUE.is("n 0", y.lots(2, 0, 0, 9), -2);
        DUE.is("n 21", y.lots(2, 21, 0, 0), -2);
        DUE.is("what 2", y.lots(2, 1, 0, 2), -1);
        DUE.is("what -1", y.lots(2, 1, 0, -1), -1);
    }

    /** LOTS of five POINTS without WAYS: each set is an ORBIT. */
    private static int byHand(int k, int n, int z, int what) {
        int even = 0;
        int together = 0;
        for (int time = 0; time < n; time++) {
            int[] with = new int[5];
            for (int set = 0; set < 32; set++) {
                if (Integer.bitCount(set) != k) continue;
                z = z * 1103515245 + 12345;
                if (((z & 0x7fffffff) >> 16) % 2 != 1) continue;
                together++;
                for (int p = 0; p < 5; p++) with[p] += set >> p & 1;
            }
            boolean same = true;
            for (int p = 0; p < 5; p++) same &= with[p] == with[0];
            if (same) even++;
        }
        return what == 0 ? even : together;
    }
}
