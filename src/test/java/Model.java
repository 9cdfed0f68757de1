import java.util.ArrayList;
import java.util.Arrays;
import java.util.HashMap;
import java.util.HashSet;
import java.util.List;
import java.util.Map;
import java.util.Set;
import java.util.TreeMap;
import java.util.TreeSet;
import java.util.regex.Matcher;
import java.util.regex.Pattern;

/**
 * What the document asks, said a second time and by its words alone: all by looking at every set, every
 * choice and every arrangement. It is slow, and shares nothing with the class but the document.
 */
final class Model {
    private static final long NO = Long.MIN_VALUE;
    private static final String CLAUSE = "(n[0-9]|g[0-9]{2}|h[0-9]{3,8}|k[0-9]{2}|b[0-9]{1,8})";
    private static final Pattern SET_UP = Pattern.compile(CLAUSE + "(;" + CLAUSE + "){0,11}");

    private record Move(int kind, int figure, List<Integer> to) {
        int set(int set) {
            int moved = 0;
            for (int p = 0; p < to.size(); p++) if ((set & 1 << p) != 0) moved += 1 << to.get(p);
            return moved;
        }
    }

    private record Kept(int k, Set<Integer> sets) { }

    private record Picture(int n, List<Move> ways, int k, Set<Integer> blocks, List<Kept> designs) { }

    private record Row(int sort, long[] items) { }

    private int n = 5;
    private List<Move> ways = new ArrayList<>();
    private int k = 2;
    private TreeSet<Integer> blocks = new TreeSet<>();
    private List<Kept> designs = new ArrayList<>();
    private String text = "";
    private final Row[] tapes = new Row[6];
    private Picture picture = null;

    private int whole() {
        int all = 0;
        for (int p = 0; p < n; p++) all += 1 << p;
        return all;
    }

    private boolean isSet(int set) {
        return set >= 0 && set <= whole();
    }

    private boolean isPoint(int p) {
        return 0 <= p && p < n;
    }

    int points(int m) {
        if (m < 3 || m > 8) return -2;
        int was = n;
        n = m;
        ways.clear();
        k = 2;
        blocks.clear();
        designs.clear();
        return was;
    }

    int way(int kind, int figure) {
        if (kind < 0 || kind > 4) return -1;
        if (figure < 0 || figure > 9) return -2;
        if (kind == 2) for (int d = 2; d < 20; d++) if (n % d == 0 && figure % d == 0) return -2;
        if (ways.size() == 4) return -4;
        List<Integer> to = new ArrayList<>();
        for (int p = 0; p < n; p++) {
            int q = p;
            if (kind == 0) q = (p + figure) % n;
            if (kind == 1) q = Math.floorMod(figure - p, n);
            if (kind == 2) q = p * figure % n;
            if (kind == 3 && p == figure % n) q = (figure + 1) % n;
            if (kind == 3 && p == (figure + 1) % n) q = figure % n;
            if (kind == 4 && p != n - 1) q = (p + figure) % (n - 1);
            to.add(q);
        }
        ways.add(new Move(kind, figure, to));
        return ways.size() - 1;
    }

    int hand(int digits) {
        String s = Integer.toString(digits);
        if (s.length() != n) return -2;
        List<Integer> to = new ArrayList<>();
        for (int p = 0; p < n; p++) {
            int q = s.charAt(p) - '1';
            if (!isPoint(q) || to.contains(q)) return -2;
            to.add(q);
        }
        if (ways.size() == 4) return -4;
        ways.add(new Move(5, 0, to));
        return ways.size() - 1;
    }

    int drop(int way) {
        if (way < 0 || way >= ways.size()) return -1;
        ways.remove(way);
        return ways.size();
    }

    int wayOf(int way, int what) {
        if (way < 0 || way >= ways.size() || what < 0 || what > 3) return -1;
        Move w = ways.get(way);
        if (what == 0) return w.kind();
        if (what == 1) return w.figure();
        if (what == 2) {
            for (int b : blocks) if (!blocks.contains(w.set(b))) return 0;
            return 1;
        }
        List<Integer> at = new ArrayList<>(w.to());
        List<Integer> still = new ArrayList<>();
        for (int p = 0; p < n; p++) still.add(p);
        int times = 1;
        while (!at.equals(still)) {
            List<Integer> next = new ArrayList<>();
            for (int p : at) next.add(w.to().get(p));
            at = next;
            times++;
        }
        return times;
    }

    int takes(int way, int p) {
        if (way < 0 || way >= ways.size() || !isPoint(p)) return -1;
        return ways.get(way).to().get(p);
    }

    int moves(int way, int set) {
        if (way < 0 || way >= ways.size() || !isSet(set)) return -1;
        return ways.get(way).set(set);
    }

    int order() {
        List<Integer> still = new ArrayList<>();
        for (int p = 0; p < n; p++) still.add(p);
        Set<List<Integer>> all = new HashSet<>();
        List<List<Integer>> fresh = new ArrayList<>();
        fresh.add(still);
        all.add(still);
        while (!fresh.isEmpty() && all.size() < 500) {
            List<List<Integer>> later = new ArrayList<>();
            for (List<Integer> g : fresh) {
                for (Move w : ways) {
                    List<Integer> h = new ArrayList<>();
                    for (int p = 0; p < n; p++) h.add(g.get(w.to().get(p)));
                    if (all.add(h)) later.add(h);
                }
            }
            fresh = later;
        }
        return Math.min(500, all.size());
    }

    /** The ORBITS of a size by joining what some WAY takes to one another, by their least sets. */
    private List<TreeSet<Integer>> orbitsOf(int size) {
        Map<Integer, TreeSet<Integer>> of = new HashMap<>();
        for (int set = 0; set <= whole(); set++) {
            if (Integer.bitCount(set) == size) of.put(set, new TreeSet<>(Set.of(set)));
        }
        for (int set : new ArrayList<>(of.keySet())) {
            for (Move w : ways) {
                TreeSet<Integer> one = of.get(set);
                TreeSet<Integer> other = of.get(w.set(set));
                if (one == other) continue;
                one.addAll(other);
                for (int s : other) of.put(s, one);
            }
        }
        TreeMap<Integer, TreeSet<Integer>> byLeast = new TreeMap<>();
        for (TreeSet<Integer> o : of.values()) byLeast.put(o.first(), o);
        return new ArrayList<>(byLeast.values());
    }

    private boolean badSize(int size) {
        return size < 0 || size > n;
    }

    int orbits(int size) {
        return badSize(size) ? -2 : orbitsOf(size).size();
    }

    int orbit(int size, int i, int what) {
        if (badSize(size)) return -2;
        List<TreeSet<Integer>> all = orbitsOf(size);
        if (i < 0 || i >= all.size()) return -1;
        if (what == 0) return all.get(i).first();
        if (what == 1) return all.get(i).size();
        if (what == 2) return all.get(i).last();
        return -1;
    }

    int member(int size, int i, int m) {
        if (badSize(size)) return -2;
        List<TreeSet<Integer>> all = orbitsOf(size);
        if (i < 0 || i >= all.size() || m < 0) return -1;
        List<Integer> sets = new ArrayList<>(all.get(i));
        return m < sets.size() ? sets.get(m) : -5;
    }

    int orbitOf(int set) {
        if (!isSet(set)) return -1;
        int i = 0;
        for (TreeSet<Integer> o : orbitsOf(Integer.bitCount(set))) {
            if (o.contains(set)) return i;
            i++;
        }
        throw new IllegalStateException();
    }

    private static int entry(int inner, Set<Integer> sets) {
        int in = 0;
        for (int set : sets) if ((set | inner) == set) in++;
        return in;
    }

    private boolean badSizes(int t, int size) {
        return badSize(t) || badSize(size) || t > size;
    }

    int table(int t, int size, int i, int j) {
        if (badSizes(t, size)) return -2;
        List<TreeSet<Integer>> inner = orbitsOf(t);
        List<TreeSet<Integer>> outer = orbitsOf(size);
        if (i < 0 || i >= inner.size() || j < 0 || j >= outer.size()) return -1;
        return entry(inner.get(i).first(), outer.get(j));
    }

    /** For each CHOICE what its numbers of TABLE make together, row by row. */
    private int[][] sums(int t, int size) {
        List<TreeSet<Integer>> inner = orbitsOf(t);
        List<TreeSet<Integer>> outer = orbitsOf(size);
        int[][] sums = new int[1 << outer.size()][inner.size()];
        for (int j = 0; j < outer.size(); j++) {
            for (int i = 0; i < inner.size(); i++) {
                int number = entry(inner.get(i).first(), outer.get(j));
                for (int c = 0; c < sums.length; c++) if ((c >> j & 1) != 0) sums[c][i] += number;
            }
        }
        return sums;
    }

    private List<Integer> solutions(int t, int size, int m) {
        List<Integer> all = new ArrayList<>();
        int[][] sums = sums(t, size);
        for (int c = 0; c < sums.length; c++) {
            boolean solves = true;
            for (int sum : sums[c]) solves &= sum == m;
            if (solves) all.add(c);
        }
        return all;
    }

    int solved(int t, int size, int m, int what) {
        if (badSizes(t, size) || m < 1 || m > 70) return -2;
        if (what != 0 && what != 1) return -1;
        if (orbits(size) > 14) return -3;
        List<Integer> all = solutions(t, size, m);
        if (what == 0) return all.size();
        return all.isEmpty() ? -5 : all.get(0);
    }

    int solution(int t, int size, int m, int i) {
        if (badSizes(t, size) || m < 1 || m > 70) return -2;
        if (i < 0) return -1;
        if (orbits(size) > 14) return -3;
        List<Integer> all = solutions(t, size, m);
        return i < all.size() ? all.get(i) : -5;
    }

    private Set<Integer> setsOf(int size, int choice) {
        Set<Integer> sets = new TreeSet<>();
        List<TreeSet<Integer>> all = orbitsOf(size);
        for (int i = 0; i < all.size() && i < 31; i++) if ((choice & 1 << i) != 0) sets.addAll(all.get(i));
        return sets;
    }

    int cover(int t, int size, int what) {
        if (badSizes(t, size)) return -2;
        if (what != 0 && what != 1) return -1;
        List<TreeSet<Integer>> outer = orbitsOf(size);
        if (outer.size() > 14) return -3;
        int[][] sums = sums(t, size);
        int best = -5;
        int fewest = -5;
        for (int c = 0; c < sums.length; c++) {
            boolean covers = true;
            for (int sum : sums[c]) covers &= sum >= 1;
            if (!covers) continue;
            int sets = 0;
            for (int j = 0; j < outer.size(); j++) if ((c >> j & 1) != 0) sets += outer.get(j).size();
            if (best == -5 || sets < fewest) {
                best = c;
                fewest = sets;
            }
        }
        return what == 0 ? fewest : best;
    }

    int choose(int size, int choice) {
        if (size < 1 || size > n) return -2;
        int many = orbits(size);
        if (choice < 0) return -1;
        for (int i = many; i < 31; i++) if ((choice & 1 << i) != 0) return -1;
        k = size;
        blocks = new TreeSet<>(setsOf(size, choice));
        return blocks.size();
    }

    int block(int set) {
        if (!isSet(set) || Integer.bitCount(set) != k) return -1;
        if (!blocks.remove(set)) blocks.add(set);
        return blocks.size();
    }

    int blockOf(int i) {
        if (i < 0) return -1;
        List<Integer> row = new ArrayList<>(blocks);
        return i < row.size() ? row.get(i) : -5;
    }

    private int shareOf(Set<Integer> sets, int ground, int s) {
        Set<Integer> numbers = new HashSet<>();
        for (int set = 0; set <= ground; set++) {
            if ((set & ground) == set && Integer.bitCount(set) == s) numbers.add(entry(set, sets));
        }
        return numbers.size() == 1 ? numbers.iterator().next() : -5;
    }

    private int strengthOf(Set<Integer> sets, int ground, int size) {
        int t = 0;
        while (t < size && shareOf(sets, ground, t + 1) != -5) t++;
        return t;
    }

    int blocks(int what) {
        if (what == 0) return k;
        if (what == 1) return blocks.size();
        if (what == 2) return strengthOf(blocks, whole(), k);
        if (what != 3) return -1;
        int in = 0;
        for (int p = 0; p < n; p++) if (entry(1 << p, blocks) > 0) in++;
        return in;
    }

    int share(int s) {
        return s < 0 || s > k ? -2 : shareOf(blocks, whole(), s);
    }

    int meets(int set, int j) {
        if (!isSet(set)) return -1;
        if (j < 0 || j > 8) return -2;
        int met = 0;
        for (int b : blocks) if (Integer.bitCount(b & set) == j) met++;
        return met;
    }

    int turned() {
        if (k == n) return -3;
        k = n - k;
        TreeSet<Integer> others = new TreeSet<>();
        for (int b : blocks) others.add(whole() - b);
        blocks = others;
        return blocks.size();
    }

    int parted(int p, int what) {
        if (!isPoint(p) || what < 0 || what > 2) return -1;
        Set<Integer> with = new HashSet<>();
        Set<Integer> without = new HashSet<>();
        for (int b : blocks) {
            if ((b & 1 << p) != 0) with.add(b - (1 << p));
            else without.add(b);
        }
        int ground = whole() - (1 << p);
        if (what == 0) return with.size();
        if (what == 1) return with.isEmpty() ? -5 : strengthOf(with, ground, k - 1);
        return without.isEmpty() || k == n ? -5 : strengthOf(without, ground, k);
    }

    int keep() {
        if (designs.size() == 4) return -4;
        designs.add(new Kept(k, new HashSet<>(blocks)));
        return designs.size() - 1;
    }

    int design(int design, int what) {
        if (design < 0 || design >= designs.size()) return -1;
        if (what == 0) return designs.get(design).k();
        return what == 1 ? designs.get(design).sets().size() : -1;
    }

    private static final Map<Integer, List<List<Integer>>> ALL = new HashMap<>();

    private static List<List<Integer>> arrangements(int many) {
        List<List<Integer>> known = ALL.get(many);
        if (known != null) return known;
        List<List<Integer>> all = new ArrayList<>();
        all.add(new ArrayList<>());
        for (int p = 0; p < many; p++) {
            List<List<Integer>> longer = new ArrayList<>();
            for (List<Integer> a : all) {
                for (int q = 0; q < many; q++) {
                    if (a.contains(q)) continue;
                    List<Integer> b = new ArrayList<>(a);
                    b.add(q);
                    longer.add(b);
                }
            }
            all = longer;
        }
        ALL.put(many, all);
        return all;
    }

    private int waysBetween(Set<Integer> one, Set<Integer> other, boolean first) {
        if (one.size() != other.size()) return 0;
        int many = 0;
        for (List<Integer> a : arrangements(n)) {
            Move move = new Move(5, 0, a);
            boolean takes = true;
            for (int set : one) {
                if (!other.contains(move.set(set))) {
                    takes = false;
                    break;
                }
            }
            if (takes) many++;
            if (takes && first) return 1;
        }
        return many;
    }

    int alike(int one, int other) {
        if (one < 0 || one >= designs.size() || other < 0 || other >= designs.size()) return -1;
        if (n == 8) return -3;
        return waysBetween(designs.get(one).sets(), designs.get(other).sets(), true);
    }

    int selves(int design) {
        if (design < 0 || design >= designs.size()) return -1;
        if (n == 8) return -3;
        return waysBetween(designs.get(design).sets(), designs.get(design).sets(), false);
    }

    int unlike(int t, int size, int m) {
        if (badSizes(t, size) || m < 1 || m > 70) return -2;
        if (n > 6 || orbits(size) > 14) return -3;
        List<Integer> all = solutions(t, size, m);
        if (all.size() > 24) return -3;
        List<Set<Integer>> left = new ArrayList<>();
        for (int choice : all) {
            Set<Integer> sets = setsOf(size, choice);
            boolean known = false;
            for (Set<Integer> one : left) known |= waysBetween(one, sets, true) == 1;
            if (!known) left.add(sets);
        }
        return left.size();
    }

    int lots(int size, int times, int z, int what) {
        if (badSize(size) || times < 1 || times > 20) return -2;
        if (what != 0 && what != 1) return -1;
        List<TreeSet<Integer>> all = orbitsOf(size);
        int even = 0;
        int together = 0;
        for (int time = 0; time < times; time++) {
            Set<Integer> sets = new HashSet<>();
            for (TreeSet<Integer> o : all) {
                z = (int) (z * 1103515245L + 12345L);
                long bare = z < 0 ? z + (1L << 31) : z;
                if (bare / 65536 % 2 == 1) sets.addAll(o);
            }
            together += sets.size();
            if (shareOf(sets, whole(), 1) != -5) even++;
        }
        return what == 0 ? even : together;
    }

    int feed(int sign) {
        if (sign < 0 || sign > 127) return -2;
        if (text.length() == 100) return -4;
        text += (char) sign;
        return text.length();
    }

    int read() {
        String told = text;
        text = "";
        if (!SET_UP.matcher(told).matches()) {
            for (int place = 0; place < told.length(); place++) {
                Matcher m = SET_UP.matcher(told.substring(0, place + 1));
                if (!m.matches() && !m.hitEnd()) return -10 - place;
            }
            return -10 - told.length();
        }
        int done = 0;
        for (String clause : told.split(";")) if (does(clause)) done++;
        return done;
    }

    private boolean does(String clause) {
        String d = clause.substring(1);
        switch (clause.charAt(0)) {
            case 'n': return points(Integer.parseInt(d)) > 0;
            case 'g': return way(d.charAt(0) - '0', d.charAt(1) - '0') >= 0;
            case 'h': return hand(Integer.parseInt(d)) >= 0;
            case 'k': return choose(d.charAt(0) - '0', 1 << d.charAt(1) - '0') >= 0;
            default:
                Set<Integer> told = new HashSet<>();
                for (char c : d.toCharArray()) told.add(c - '0');
                int set = 0;
                for (int p : told) set += 1 << p;
                return block(set) >= 0;
        }
    }

    int judge(int tape, int i) {
        if (tape < 0 || tape > 5) return -1;
        if (tapes[tape] != null && tapes[tape].sort() != 1) return -12;
        if (blocks.isEmpty()) return -5;
        if (i < 0 || tapes[tape] == null) return 100;
        long[] row = tapes[tape].items();
        int looked = 0;
        for (int b : blocks) {
            long place = (long) i + looked;
            if (place >= row.length) return 100 + looked;
            if (row[(int) place] != b) return looked;
            looked++;
        }
        return -5;
    }

    int image() {
        picture = new Picture(n, List.copyOf(ways), k, Set.copyOf(blocks), List.copyOf(designs));
        return blocks.size();
    }

    int undo() {
        if (picture == null) return -3;
        n = picture.n();
        ways = new ArrayList<>(picture.ways());
        k = picture.k();
        blocks = new TreeSet<>(picture.blocks());
        designs = new ArrayList<>(picture.designs());
        return blocks.size();
    }

    int count(int what) {
        int[] all = {n, ways.size(), blocks.size(), designs.size(), text.length()};
        return what < 0 || what > 4 ? -2 : all[what];
    }

    int tape(int tape, int sort, int many) {
        if (tape < 0 || tape > 5) return -1;
        if (sort == -1) {
            tapes[tape] = null;
            return 1;
        }
        if (sort < 0 || sort > 4 || many > 60) return -2;
        if (many < 0) return -14;
        tapes[tape] = new Row(sort, new long[many]);
        return 1;
    }

    int item(int tape, int i, long v) {
        if (tape < 0 || tape > 5) return -1;
        if (tapes[tape] == null) return -11;
        long[] row = tapes[tape].items();
        if (i < 0 || i >= row.length) return -13;
        int[] bits = {8, 16, 32, 64};
        int sort = tapes[tape].sort();
        row[i] = sort == 4 ? (v == 0 ? 0 : 1) : v << 64 - bits[sort] >> 64 - bits[sort];
        return 1;
    }

    long peek(int tape, int i) {
        if (tape < 0 || tape > 5 || tapes[tape] == null) return NO;
        long[] row = tapes[tape].items();
        return i < 0 || i >= row.length ? NO : row[i];
    }

    int shift(int tape, int i, int other, int j, int many) {
        if (tape < 0 || tape > 5 || other < 0 || other > 5) return -1;
        Row from = tapes[tape];
        Row to = tapes[other];
        if (from == null || to == null) return -11;
        if (from.sort() != to.sort()) return -12;
        if (many < 0 || i < 0 || j < 0) return -13;
        if ((long) i + many > from.items().length || (long) j + many > to.items().length) return -13;
        long[] were = Arrays.copyOfRange(from.items(), i, i + many);
        for (int x = 0; x < many; x++) to.items()[j + x] = were[x];
        return many;
    }
}
