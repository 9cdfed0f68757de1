/**
 * For many told groups, all that CHOICES and LOTS answer, against the Model: promises 10 to 18, 30, 31.
 */
public final class SweepTest {
    private static final Due DUE = new Due("SweepTest");

    public static void main(String[] args) {
        int step = args.length > 0 ? Integer.parseInt(args[0]) : 37;
        for (int told = 0; told < 6 * 50 * 50; told += step) sweep(3 + told % 6, told / 6 % 50, told / 300);
        DUE.end();
    }

    private static void sweep(int n, int one, int other) {
        OrbitDesigns x = Due.of(n);
        Model y = new Model();
        y.points(n);
        String name = "n " + n;
        int[] ways = {one, other};
        for (int w : ways) {
            name += ", way " + w;
            DUE.is(name, x.way(w / 10, w % 10), y.way(w / 10, w % 10));
        }
        DUE.is(name + ": order", x.order(), y.order());
        for (int k = 0; k <= n; k++) {
            DUE.is(name + ": orbits", x.orbits(k), y.orbits(k));
            DUE.is(name + ": lots", x.lots(k, 20, one, 0), y.lots(k, 20, one, 0));
            DUE.is(name + ": lots", x.lots(k, 20, other, 1), y.lots(k, 20, other, 1));
            if (x.orbits(k) <= 10) for (int t = 0; t <= k; t++) choices(name + " t " + t + " k " + k, x, y, t, k);
        }
    }

    private static void choices(String name, OrbitDesigns x, Model y, int t, int k) {
        DUE.is(name + ": cover, sets", x.cover(t, k, 0), y.cover(t, k, 0));
        DUE.is(name + ": cover, choice", x.cover(t, k, 1), y.cover(t, k, 1));
        for (int m = 1; m <= 6; m++) {
            DUE.is(name + " m " + m + ": solved", x.solved(t, k, m, 0), y.solved(t, k, m, 0));
            DUE.is(name + " m " + m + ": the first", x.solved(t, k, m, 1), y.solved(t, k, m, 1));
            DUE.is(name + " m " + m + ": solution 1", x.solution(t, k, m, 1), y.solution(t, k, m, 1));
            DUE.is(name + " m " + m + ": unlike", x.unlike(t, k, m), y.unlike(t, k, m));
        }
    }
}
