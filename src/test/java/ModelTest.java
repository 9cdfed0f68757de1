import java.util.Random;

/** Runs of calls, told by fixed seeds, that the class and the Model must answer alike: all promises. */
public final class ModelTest {
    private static final Due DUE = new Due("ModelTest");
    private static final int CALLS = 500;

    private final Random random;
    private final OrbitDesigns x = new OrbitDesigns();
    private final Model y = new Model();
    private final int run;
    private int call;

    private ModelTest(int run) {
        this.run = run;
        random = new Random(run);
    }

    public static void main(String[] args) {
        int first = args.length > 0 ? Integer.parseInt(args[0]) : 0;
        int runs = args.length > 1 ? Integer.parseInt(args[1]) : 120;
        for (int run = first; run < first + runs; run++) new ModelTest(run).run();
        DUE.end();
    }

    private void run() {
        for (call = 0; call < CALLS; call++) {
            if (random.nextInt(3) == 0) change();
            else ask();
        }
    }

    private void due(String what, long got, long want) {
        DUE.is("run " + run + ", call " + call + ": " + what, got, want);
    }

    /** Mostly within low .. high, sometimes beside it, seldom far away. */
    private int pick(int low, int high) {
        int luck = random.nextInt(60);
        if (luck == 0) return low - 1;
        if (luck == 1) return high + 1;
        if (luck == 2) return random.nextInt();
        if (luck == 3) return random.nextBoolean() ? Integer.MAX_VALUE : Integer.MIN_VALUE;
        return low + random.nextInt(high - low + 1);
    }

    private int n() {
        return x.count(0);
    }

    private int set() {
        return pick(0, (1 << n()) - 1);
    }

    private int setOfK() {
        int k = x.blocks(0);
        int set = 0;
        while (Integer.bitCount(set) < k) set |= 1 << random.nextInt(n());
        return random.nextInt(20) == 0 ? set() : set;
    }

    private int digits() {
        StringBuilder s = new StringBuilder();
        while (s.length() < n()) {
            String d = Integer.toString(1 + random.nextInt(n()));
            if (s.indexOf(d) < 0 || random.nextInt(40) == 0) s.append(d);
        }
        if (random.nextInt(30) == 0) s.append('1');
        if (random.nextInt(30) == 0) s.setLength(s.length() - 1);
        return s.length() > 9 ? 0 : Integer.parseInt(s.toString());
    }

    private void change() {
        switch (random.nextInt(16)) {
            case 0: {
                if (random.nextInt(3) != 0) return;
                int n = random.nextInt(3) == 0 ? pick(3, 8) : pick(4, 7);
                due("points(" + n + ")", x.points(n), y.points(n));
                return;
            }
            case 1: case 2: case 3: {
                int kind = pick(0, 4);
                int figure = pick(0, 9);
                due("way(" + kind + ", " + figure + ")", x.way(kind, figure), y.way(kind, figure));
                return;
            }
            case 4: {
                int d = digits();
                due("hand(" + d + ")", x.hand(d), y.hand(d));
                return;
            }
            case 5: {
                int way = pick(0, 3);
                due("drop(" + way + ")", x.drop(way), y.drop(way));
                return;
            }
            case 6: case 7: choose(); return;
            case 8: case 9: {
                int set = setOfK();
                due("block(" + set + ")", x.block(set), y.block(set));
                return;
            }
            case 10: due("turned()", x.turned(), y.turned()); return;
            case 11: due("keep()", x.keep(), y.keep()); return;
            case 12: due("image()", x.image(), y.image()); return;
            case 13: due("undo()", x.undo(), y.undo()); return;
            case 14: read(); return;
            default: tapes(); return;
        }
    }

    private void choose() {
        int k = pick(1, n());
        int many = Math.max(1, Math.min(31, x.orbits(k)));
        int choice = random.nextInt() & (many == 31 ? Integer.MAX_VALUE : (1 << many) - 1);
        if (random.nextBoolean()) choice &= random.nextInt();
        if (random.nextInt(20) == 0) choice = pick(0, (1 << Math.min(30, many)) - 1);
        if (random.nextInt(4) == 0) {
            int t = Math.min(2, k);
            int solving = x.solution(t, k, 1 + random.nextInt(4), 0);
            if (solving > 0) choice = solving;
        }
        due("choose(" + k + ", " + choice + ")", x.choose(k, choice), y.choose(k, choice));
    }

    private String clause() {
        StringBuilder s = new StringBuilder();
        char letter = "nghkbbbkh".charAt(random.nextInt(9));
        s.append(letter);
        int many = letter == 'n' ? 1 : letter == 'g' || letter == 'k' ? 2 : letter == 'h' ? 3 + random.nextInt(6) : 1 + random.nextInt(3);
        if (letter == 'h' && random.nextInt(3) != 0) return s.append(Math.abs(digits())).toString();
        if (letter == 'n' && random.nextInt(3) != 0) return "n" + (3 + random.nextInt(6));
        for (int i = 0; i < many; i++) s.append(random.nextInt(letter == 'b' ? 8 : 10));
        if (letter == 'k') s.setCharAt(2, (char) ('0' + random.nextInt(4)));
        return s.toString();
    }

    private void read() {
        StringBuilder s = new StringBuilder();
        int many = random.nextInt(5) == 0 ? 10 + random.nextInt(5) : 1 + random.nextInt(4);
        for (int i = 0; i < many; i++) s.append(i == 0 ? "" : ";").append(clause());
        if (random.nextInt(3) == 0) {
            int place = random.nextInt(s.length());
            String odd = "nghkb;0123456789 x";
            if (random.nextBoolean()) s.insert(place, odd.charAt(random.nextInt(odd.length())));
            else s.setLength(place);
        }
        for (int i = 0; i < s.length(); i++) due("feed", x.feed(s.charAt(i)), y.feed(s.charAt(i)));
        if (random.nextInt(10) == 0) {
            int sign = pick(0, 127);
            due("feed(" + sign + ")", x.feed(sign), y.feed(sign));
        }
        due("read() of " + s, x.read(), y.read());
    }

    private void tapes() {
        int tape = pick(0, 5);
        switch (random.nextInt(5)) {
            case 0: {
                int sort = random.nextBoolean() ? 1 : pick(-1, 4);
                int n = random.nextBoolean() ? pick(0, 60) : pick(0, 8);
                due("tape(" + tape + ", " + sort + ", " + n + ")", x.tape(tape, sort, n), y.tape(tape, sort, n));
                return;
            }
            case 1: {
                int i = pick(0, 12);
                int from = pick(0, 5);
                int to = pick(0, 5);
                int j = pick(0, 12);
                int n = pick(0, 5);
                String told = "shift(" + from + ", " + i + ", " + to + ", " + j + ", " + n + ")";
                due(told, x.shift(from, i, to, j, n), y.shift(from, i, to, j, n));
                return;
            }
            case 2: {
                int i = pick(0, 5);
                long v = random.nextLong() >> random.nextInt(64);
                due("item", x.item(tape, i, v), y.item(tape, i, v));
                return;
            }
            default: blocksOnTape(tape); return;
        }
    }

    /** So that judge() finds something right. */
    private void blocksOnTape(int tape) {
        int many = Math.max(0, Math.min(60, x.count(2) + random.nextInt(4) - 1));
        int from = random.nextInt(3);
        due("tape", x.tape(tape, 1, many), y.tape(tape, 1, many));
        int wrong = random.nextInt(3 * many + 1);
        for (int i = 0; i + from < many; i++) {
            int v = x.blockOf(i) + (i == wrong ? 1 : 0);
            due("item", x.item(tape, i + from, v), y.item(tape, i + from, v));
        }
        due("judge", x.judge(tape, from), y.judge(tape, from));
    }

    private void ask() {
        switch (random.nextInt(5)) {
            case 0: askWaysAndOrbits(); return;
            case 1: askChoices(); return;
            case 2: askBlocks(); return;
            case 3: askDesigns(); return;
            default: askRest(); return;
        }
    }

    private void askWaysAndOrbits() {
        int way = pick(0, 3);
        int what = pick(0, 3);
        int p = pick(0, n() - 1);
        int set = set();
        int k = pick(0, n());
        int i = pick(0, Math.max(0, x.orbits(k) - 1));
        int m = pick(0, 12);
        switch (random.nextInt(8)) {
            case 0: due("wayOf(" + way + ", " + what + ")", x.wayOf(way, what), y.wayOf(way, what)); return;
            case 1: due("takes(" + way + ", " + p + ")", x.takes(way, p), y.takes(way, p)); return;
            case 2: due("moves(" + way + ", " + set + ")", x.moves(way, set), y.moves(way, set)); return;
            case 3: due("order()", x.order(), y.order()); return;
            case 4: due("orbits(" + k + ")", x.orbits(k), y.orbits(k)); return;
            case 5: {
                int asked = pick(0, 2);
                due("orbit(" + k + ", " + i + ", " + asked + ")", x.orbit(k, i, asked), y.orbit(k, i, asked));
                return;
            }
            case 6: due("member(" + k + ", " + i + ", " + m + ")", x.member(k, i, m), y.member(k, i, m)); return;
            default: due("orbitOf(" + set + ")", x.orbitOf(set), y.orbitOf(set)); return;
        }
    }

    private void askChoices() {
        int k = pick(0, n());
        int t = pick(0, Math.max(0, Math.min(k, 8)));
        int m = random.nextBoolean() ? pick(1, 5) : pick(1, 70);
        int total = x.table(t, k, 0, 0);
        if (total > 0 && random.nextInt(3) == 0) m = total;
        int what = pick(0, 1);
        String sizes = "(" + t + ", " + k + ", ";
        switch (random.nextInt(6)) {
            case 0: {
                int i = pick(0, Math.max(0, x.orbits(t) - 1));
                int j = pick(0, Math.max(0, x.orbits(k) - 1));
                due("table" + sizes + i + ", " + j + ")", x.table(t, k, i, j), y.table(t, k, i, j));
                return;
            }
            case 1: due("solved" + sizes + m + ", " + what + ")", x.solved(t, k, m, what), y.solved(t, k, m, what)); return;
            case 2: {
                int i = pick(0, random.nextBoolean() ? 2 : 40);
                due("solution" + sizes + m + ", " + i + ")", x.solution(t, k, m, i), y.solution(t, k, m, i));
                return;
            }
            case 3: due("cover" + sizes + what + ")", x.cover(t, k, what), y.cover(t, k, what)); return;
            case 4: due("unlike" + sizes + m + ")", x.unlike(t, k, m), y.unlike(t, k, m)); return;
            default: {
                int n = pick(1, 20);
                int z = random.nextInt();
                due("lots(" + k + ", " + n + ", " + z + ")", x.lots(k, n, z, what), y.lots(k, n, z, what));
            }
        }
    }

    private void askBlocks() {
        int set = set();
        int j = pick(0, 8);
        int p = pick(0, n() - 1);
        int i = pick(0, Math.max(0, x.count(2)));
        int s = pick(0, x.blocks(0));
        switch (random.nextInt(5)) {
            case 0: due("blockOf(" + i + ")", x.blockOf(i), y.blockOf(i)); return;
            case 1: {
                int what = pick(0, 3);
                due("blocks(" + what + ")", x.blocks(what), y.blocks(what));
                return;
            }
            case 2: due("share(" + s + ")", x.share(s), y.share(s)); return;
            case 3: due("meets(" + set + ", " + j + ")", x.meets(set, j), y.meets(set, j)); return;
            default: {
                int what = pick(0, 2);
                due("parted(" + p + ", " + what + ")", x.parted(p, what), y.parted(p, what));
            }
        }
    }

    private void askDesigns() {
        int one = pick(0, 3);
        int other = pick(0, 3);
        int what = pick(0, 1);
        switch (random.nextInt(3)) {
            case 0: due("design(" + one + ", " + what + ")", x.design(one, what), y.design(one, what)); return;
            case 1: due("alike(" + one + ", " + other + ")", x.alike(one, other), y.alike(one, other)); return;
            default: due("selves(" + one + ")", x.selves(one), y.selves(one)); return;
        }
    }

    private void askRest() {
        int tape = pick(0, 5);
        int i = pick(0, 12);
        int what = pick(0, 4);
        switch (random.nextInt(4)) {
            case 0: due("judge(" + tape + ", " + i + ")", x.judge(tape, i), y.judge(tape, i)); return;
            case 1: due("peek(" + tape + ", " + i + ")", x.peek(tape, i), y.peek(tape, i)); return;
            case 2: due("undo is as it was", x.blocks(1), y.blocks(1)); return;
            default: due("count(" + what + ")", x.count(what), y.count(what)); return;
        }
    }
}
