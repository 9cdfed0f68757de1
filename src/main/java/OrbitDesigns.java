import java.util.Arrays;

/**
 * Designs with a told group: points, ways to move them, the orbits of sets that come of these,
 * blocks chosen by orbits or by hand, and what can be asked of them. Sets are told as bits.
 */
public final class OrbitDesigns {
    public static final int NONE = -1, BAD = -2, STATE = -3, FULL = -4;
    public static final long NO = Long.MIN_VALUE;

    /** The answer where there is no such thing, though the question was a fair one. */
    private static final int ABSENT = -5;
    private static final int READ_FAULT = -10;
    private static final int NOTHING = -11, CAST = -12, PLACE = -13, SIZE = -14;
    private static final int LOOKED_AT = 100;

    private static final int FIRST_POINTS = 5, LEAST_POINTS = 3, MOST_POINTS = 8, MOST_SETS = 256;
    private static final int FIRST_SIZE = 2;
    private static final int SHIFT_KIND = 0, MIRROR = 1, TIMES = 2, SWAP = 3, BUT_ONE = 4, HAND = 5;
    private static final int MOST_WAYS = 4, MOST_FIGURE = 9, LONGEST_PERIOD = 15;
    /** A product with the mix, moved down by the shift, is the number of one of the slots. */
    private static final int MOST_ORDER = 500, ORDER_SLOTS = 1024, ORDER_MIX = 0x9E3779B1, ORDER_SHIFT = 22;
    /** There are 70 sets of 4 of 8 POINTS, and of no size are there more. */
    private static final int MOST_ORBITS = 70;
    private static final int MOST_COLUMNS = 14, MOST_AIM = 70, CHOICE_BITS = 31;
    private static final int MOST_DESIGNS = 4;
    private static final int MOST_MATCHED_POINTS = 7, MOST_UNLIKE_POINTS = 6, MOST_UNLIKE = 24;
    private static final int MOST_TIMES = 20;
    private static final int MOST_SIGN = 127, MOST_TEXT = 100, MOST_CLAUSES = 12;
    private static final int TAPES = 6, MOST_ITEMS = 60, SORTS = 5;
    private static final int EMPTY = -1, BYTES = 0, SHORTS = 1, INTS = 2, BOOLEANS = 4;

    private final Setup now;
    private final Setup picture;
    private boolean pictured;
    private final Text text;
    private final Tape[] tapeRow;
    // What stands below holds rows to work with, made once: nothing in them outlasts a call.
    private final Orbits found;
    private final Group group;
    private final Choices choices;
    private final Matcher matcher;
    private final Lottery lottery;
    private final Blocks oneScratch;
    private final Blocks otherScratch;

    public OrbitDesigns() {
        now = new Setup();
        picture = new Setup();
        pictured = false;
        text = new Text();
        tapeRow = new Tape[TAPES];
        for (int i = 0; i < tapeRow.length; i++) tapeRow[i] = new Tape();
        found = new Orbits();
        group = new Group();
        choices = new Choices();
        matcher = new Matcher();
        lottery = new Lottery();
        oneScratch = new Blocks();
        otherScratch = new Blocks();
    }

    // ---- POINTS and WAYS ----

    public int points(int n) {
        if (n < LEAST_POINTS || n > MOST_POINTS) return BAD;
        int before = now.n;
        now.restart(n);
        return before;
    }

    public int way(int kind, int figure) {
        if (kind < 0 || kind >= HAND) return NONE;
        if (figure < 0 || figure > MOST_FIGURE) return BAD;
        if (kind == TIMES && haveDivisorInCommon(figure, now.n)) return BAD;
        Way way = now.spareWay();
        if (way == null) return FULL;
        way.becomeKind(kind, figure, now.n);
        return now.wayCount++;
    }

    public int hand(int digits) {
        if (!isArrangement(digits, now.n)) return BAD;
        Way way = now.spareWay();
        if (way == null) return FULL;
        way.becomeByHand(digits, now.n);
        return now.wayCount++;
    }

    public int drop(int way) {
        if (now.wayAt(way) == null) return NONE;
        now.removeWay(way);
        return now.wayCount;
    }

    public int wayOf(int way, int what) {
        Way asked = now.wayAt(way);
        if (asked == null) return NONE;
        switch (what) {
            case 0: return asked.kind;
            case 1: return asked.figure;
            case 2: return now.blocks.areKeptBy(asked) ? 1 : 0;
            case 3: return asked.period();
            default: return NONE;
        }
    }

    public int takes(int way, int p) {
        Way asked = now.wayAt(way);
        if (asked == null || !now.isPoint(p)) return NONE;
        return asked.pointFor(p);
    }

    public int moves(int way, int set) {
        Way asked = now.wayAt(way);
        if (asked == null || !now.isSet(set)) return NONE;
        return asked.setFor(set);
    }

    // ---- THE GROUP and its ORBITS ----

    public int order() {
        return group.orderOf(now);
    }

    public int orbits(int k) {
        if (!now.isSize(k)) return BAD;
        found.find(now);
        return found.amountOf(k);
    }

    public int orbit(int k, int i, int what) {
        if (!now.isSize(k)) return BAD;
        found.find(now);
        if (!found.isOrbit(k, i)) return NONE;
        switch (what) {
            case 0: return found.setAt(k, i, 0);
            case 1: return found.setsIn(k, i);
            case 2: return found.greatestOf(k, i);
            default: return NONE;
        }
    }

    public int member(int k, int i, int m) {
        if (!now.isSize(k)) return BAD;
        found.find(now);
        if (!found.isOrbit(k, i) || m < 0) return NONE;
        return found.setAt(k, i, m);
    }

    public int orbitOf(int set) {
        if (!now.isSet(set)) return NONE;
        found.find(now);
        return found.numberOf(set);
    }

    public int table(int t, int k, int i, int j) {
        if (!areSizes(t, k)) return BAD;
        found.find(now);
        if (!found.isOrbit(t, i) || !found.isOrbit(k, j)) return NONE;
        return found.setsAround(k, j, found.setAt(t, i, 0));
    }

    // ---- CHOICES that SOLVE or COVER ----

    public int solved(int t, int k, int m, int what) {
        if (!areSizes(t, k) || !isAim(m)) return BAD;
        if (what < 0 || what > 1) return NONE;
        if (!loadChoices(t, k)) return STATE;
        choices.solve(m, 0);
        return what == 0 ? choices.solutions : choices.answer;
    }

    public int solution(int t, int k, int m, int i) {
        if (!areSizes(t, k) || !isAim(m)) return BAD;
        if (i < 0) return NONE;
        if (!loadChoices(t, k)) return STATE;
        choices.solve(m, i);
        return choices.answer;
    }

    public int cover(int t, int k, int what) {
        if (!areSizes(t, k)) return BAD;
        if (what < 0 || what > 1) return NONE;
        if (!loadChoices(t, k)) return STATE;
        choices.findFewest();
        if (choices.answer == ABSENT) return ABSENT;
        return what == 0 ? choices.fewest : choices.answer;
    }

    // ---- BLOCKS ----

    public int choose(int k, int orbits) {
        if (k < 1 || !now.isSize(k)) return BAD;
        found.find(now);
        if (orbits < 0 || hasBitsFrom(orbits, found.amountOf(k))) return NONE;
        now.blocks.becomeChoice(found, k, orbits);
        return now.blocks.amount;
    }

    public int block(int set) {
        if (!now.isSet(set) || Integer.bitCount(set) != now.blocks.size) return NONE;
        now.blocks.put(set, !now.blocks.has(set));
        return now.blocks.amount;
    }

    public int blockOf(int i) {
        if (i < 0) return NONE;
        return now.blocks.setAt(i);
    }

    public int blocks(int what) {
        switch (what) {
            case 0: return now.blocks.size;
            case 1: return now.blocks.amount;
            case 2: return now.blocks.strengthOn(now.whole());
            case 3: return Integer.bitCount(now.blocks.union());
            default: return NONE;
        }
    }

    public int share(int s) {
        if (s < 0 || s > now.blocks.size) return BAD;
        return now.blocks.shareOn(now.whole(), s);
    }

    public int meets(int set, int j) {
        if (!now.isSet(set)) return NONE;
        if (j < 0 || j > MOST_POINTS) return BAD;
        return now.blocks.meeting(set, j);
    }

    public int turned() {
        if (now.blocks.size == now.n) return STATE;
        now.blocks.turn(now.n);
        return now.blocks.amount;
    }

    public int parted(int p, int what) {
        if (!now.isPoint(p) || what < 0 || what > 2) return NONE;
        // Where K is n there are none WITHOUT the POINT: that case needs no look of its own.
        oneScratch.becomePart(now.blocks, 1 << p, what < 2);
        if (what == 0) return oneScratch.amount;
        if (oneScratch.amount == 0) return ABSENT;
        return oneScratch.strengthOn(now.whole() & ~(1 << p));
    }

    // ---- DESIGNS ----

    public int keep() {
        Blocks design = now.spareDesign();
        if (design == null) return FULL;
        design.copyFrom(now.blocks);
        return now.designCount++;
    }

    public int design(int design, int what) {
        Blocks asked = now.designAt(design);
        if (asked == null) return NONE;
        switch (what) {
            case 0: return asked.size;
            case 1: return asked.amount;
            default: return NONE;
        }
    }

    public int alike(int one, int other) {
        Blocks first = now.designAt(one);
        Blocks second = now.designAt(other);
        if (first == null || second == null) return NONE;
        if (now.n > MOST_MATCHED_POINTS) return STATE;
        return matcher.areAlike(first, second, now.n) ? 1 : 0;
    }

    public int selves(int design) {
        Blocks asked = now.designAt(design);
        if (asked == null) return NONE;
        if (now.n > MOST_MATCHED_POINTS) return STATE;
        return matcher.selvesOf(asked, now.n);
    }

    public int unlike(int t, int k, int m) {
        if (!areSizes(t, k) || !isAim(m)) return BAD;
        if (now.n > MOST_UNLIKE_POINTS || !loadChoices(t, k)) return STATE;
        choices.solve(m, 0);
        if (choices.solutions > MOST_UNLIKE) return STATE;
        int unlikeOnes = 0;
        for (int i = 0; i < choices.solutions; i++) {
            if (!isLikeAnEarlierSolution(k, i)) unlikeOnes++;
        }
        return unlikeOnes;
    }

    // ---- LOTS ----

    public int lots(int k, int n, int z, int what) {
        if (!now.isSize(k) || n < 1 || n > MOST_TIMES) return BAD;
        if (what < 0 || what > 1) return NONE;
        found.find(now);
        lottery.play(found, now.n, k, n, z);
        return what == 0 ? lottery.evenOnes : lottery.setsTogether;
    }

    // ---- THE TEXT ----

    public int feed(int sign) {
        if (sign < 0 || sign > MOST_SIGN) return BAD;
        if (!text.append(sign)) return FULL;
        return text.length;
    }

    public int read() {
        int fault = text.fault();
        int answer = fault == NONE ? doClauses() : READ_FAULT - fault;
        text.length = 0;
        return answer;
    }

    // ---- BLOCKS told by a row ----

    public int judge(int tape, int i) {
        Tape row = tapeAt(tape);
        if (row == null) return NONE;
        if (row.sort != EMPTY && row.sort != SHORTS) return CAST;
        for (int b = 0; b < now.blocks.amount; b++) {
            if (i < 0 || b >= row.length - i) return LOOKED_AT + b;
            if (row.itemAt(i + b) != now.blocks.setAt(b)) return b;
        }
        return ABSENT;
    }

    // ---- THE IMAGE ----

    public int image() {
        picture.copyFrom(now);
        pictured = true;
        return now.blocks.amount;
    }

    public int undo() {
        if (!pictured) return STATE;
        now.copyFrom(picture);
        return now.blocks.amount;
    }

    public int count(int what) {
        switch (what) {
            case 0: return now.n;
            case 1: return now.wayCount;
            case 2: return now.blocks.amount;
            case 3: return now.designCount;
            case 4: return text.length;
            default: return BAD;
        }
    }

    // ---- TAPES ----

    public int tape(int tape, int sort, int n) {
        Tape row = tapeAt(tape);
        if (row == null) return NONE;
        if (sort < EMPTY || sort >= SORTS) return BAD;
        if (sort != EMPTY && n > MOST_ITEMS) return BAD;
        if (sort != EMPTY && n < 0) return SIZE;
        row.become(sort, sort == EMPTY ? 0 : n);
        return 1;
    }

    public int item(int tape, int i, long v) {
        Tape row = tapeAt(tape);
        if (row == null) return NONE;
        if (row.sort == EMPTY) return NOTHING;
        if (i < 0 || i >= row.length) return PLACE;
        row.put(i, v);
        return 1;
    }

    public long peek(int tape, int i) {
        Tape row = tapeAt(tape);
        if (row == null) return NO;
        return row.itemAt(i);
    }

    public int shift(int tape, int i, int other, int j, int n) {
        Tape from = tapeAt(tape);
        Tape to = tapeAt(other);
        if (from == null || to == null) return NONE;
        if (from.sort == EMPTY || to.sort == EMPTY) return NOTHING;
        if (from.sort != to.sort) return CAST;
        if (!from.hasPlaces(i, n) || !to.hasPlaces(j, n)) return PLACE;
        to.copyItems(j, from, i, n);
        return n;
    }

    // ---- what several of the calls need ----

    private boolean areSizes(int t, int k) {
        return now.isSize(t) && now.isSize(k) && t <= k;
    }

    private static boolean isAim(int m) {
        return m >= 1 && m <= MOST_AIM;
    }

    /** Whether a CHOICE has bits of numbers from the given one on (an int holds no more than 31). */
    private static boolean hasBitsFrom(int choice, int number) {
        return number < CHOICE_BITS && choice >> number != 0;
    }

    private static boolean haveDivisorInCommon(int a, int b) {
        for (int d = 2; d <= b; d++) {
            if (a % d == 0 && b % d == 0) return true;
        }
        return false;
    }

    /** Whether a number has n digits, each of 1 .. n once. */
    private static boolean isArrangement(int digits, int n) {
        int rest = digits;
        int seen = 0;
        for (int i = 0; i < n; i++) {
            int digit = rest % 10;
            if (digit < 1 || digit > n) return false;
            seen |= 1 << digit;
            rest /= 10;
        }
        return rest == 0 && Integer.bitCount(seen) == n;
    }

    /** Answers false if there are more ORBITS of k than CHOICES are looked for. */
    private boolean loadChoices(int t, int k) {
        found.find(now);
        if (found.amountOf(k) > MOST_COLUMNS) return false;
        choices.load(found, t, k);
        return true;
    }

    private boolean isLikeAnEarlierSolution(int k, int i) {
        oneScratch.becomeChoice(found, k, choices.earlySolution(i));
        for (int earlier = 0; earlier < i; earlier++) {
            otherScratch.becomeChoice(found, k, choices.earlySolution(earlier));
            if (matcher.areAlike(oneScratch, otherScratch, now.n)) return true;
        }
        return false;
    }

    private int doClauses() {
        int done = 0;
        int start = 0;
        for (int clause = 0; clause < MOST_CLAUSES && start < text.length; clause++) {
            int end = start + 1 + text.digitsFrom(start + 1, MOST_POINTS);
            if (doClause(start, end)) done++;
            start = end + 1;
        }
        return done;
    }

    private boolean doClause(int start, int end) {
        int value = text.numberIn(start + 1, end);
        switch (text.signAt(start)) {
            case 'n': return points(value) >= 0;
            case 'g': return way(value / 10, value % 10) >= 0;
            case 'h': return hand(value) >= 0;
            case 'k': return choose(value / 10, 1 << value % 10) >= 0;
            case 'b': return doBlockClause(start + 1, end);
            default: return false;
        }
    }

    private boolean doBlockClause(int start, int end) {
        int set = 0;
        for (int place = start; place < end; place++) {
            int p = text.digitAt(place);
            if (!now.isPoint(p)) return false;
            set |= 1 << p;
        }
        return block(set) >= 0;
    }

    private Tape tapeAt(int tape) {
        if (tape < 0 || tape >= tapeRow.length) return null;
        return tapeRow[tape];
    }

    /** The rest of a number of 0 or more. */
    private static int modulo(int a, int divisor) {
        return divisor < 1 ? 0 : a % divisor;
    }

    /** A way to take each POINT to one. */
    private static final class Way {
        int kind;
        int figure;
        /** POINTS that there are not stay, so that all eight are always an arrangement. */
        private final int[] target;

        Way() {
            target = new int[MOST_POINTS];
        }

        void copyFrom(Way other) {
            kind = other.kind;
            figure = other.figure;
            System.arraycopy(other.target, 0, target, 0, MOST_POINTS);
        }

        void becomeKind(int newKind, int newFigure, int n) {
            kind = newKind;
            figure = newFigure;
            for (int p = 0; p < target.length; p++) {
                target[p] = p < n ? targetByKind(p, n) : p;
            }
        }

        private int targetByKind(int p, int n) {
            switch (kind) {
                case SHIFT_KIND: return modulo(p + figure, n);
                case MIRROR: return modulo(figure + n - p, n);
                case TIMES: return modulo(p * figure, n);
                case SWAP: return swapped(p, modulo(figure, n), modulo(figure + 1, n));
                case BUT_ONE: return p == n - 1 ? p : modulo(p + figure, n - 1);
                default: return p;
            }
        }

        private static int swapped(int p, int one, int other) {
            if (p == one) return other;
            return p == other ? one : p;
        }

        void becomeByHand(int digits, int n) {
            kind = HAND;
            figure = 0;
            int rest = digits;
            for (int p = target.length - 1; p >= 0; p--) {
                target[p] = p < n ? rest % 10 - 1 : p;
                if (p < n) rest /= 10;
            }
        }

        int pointFor(int p) {
            if (p < 0 || p >= target.length) return NONE;
            return target[p];
        }

        int setFor(int set) {
            int moved = 0;
            for (int p = 0; p < target.length; p++) {
                if ((set >> p & 1) == 1) moved |= 1 << target[p];
            }
            return moved;
        }

        int period() {
            for (int times = 1; times < LONGEST_PERIOD; times++) {
                if (isDoneAfter(times)) return times;
            }
            return LONGEST_PERIOD;
        }

        private boolean isDoneAfter(int times) {
            for (int p = 0; p < target.length; p++) {
                int at = p;
                for (int i = 0; i < times; i++) at = pointFor(at);
                if (at != p) return false;
            }
            return true;
        }
    }

    /** A row of sets of one size. */
    private static final class Blocks {
        int size;
        int amount;
        private final boolean[] isBlock;

        Blocks() {
            size = FIRST_SIZE;
            amount = 0;
            isBlock = new boolean[MOST_SETS];
        }

        void becomeEmpty(int newSize) {
            size = newSize;
            amount = 0;
            for (int set = 0; set < isBlock.length; set++) isBlock[set] = false;
        }

        void copyFrom(Blocks other) {
            size = other.size;
            amount = other.amount;
            for (int set = 0; set < isBlock.length; set++) isBlock[set] = other.has(set);
        }

        void becomeChoice(Orbits orbits, int k, int choice) {
            becomeEmpty(k);
            for (int set = 0; set < isBlock.length; set++) {
                int i = orbits.numberOf(set);
                boolean chosen = i >= 0 && i < CHOICE_BITS && (choice >> i & 1) == 1;
                if (chosen && Integer.bitCount(set) == k) put(set, true);
            }
        }

        /** The BLOCKS of a whole that have a POINT, that one left out, or all that don't have it. */
        void becomePart(Blocks whole, int point, boolean with) {
            becomeEmpty(with ? whole.size - 1 : whole.size);
            for (int set = 0; set < isBlock.length; set++) {
                boolean hasPoint = (set & point) != 0;
                if (whole.has(set) && hasPoint == with) put(set & ~point, true);
            }
        }

        boolean has(int set) {
            return set >= 0 && set < isBlock.length && isBlock[set];
        }

        void put(int set, boolean in) {
            if (set < 0 || set >= isBlock.length || isBlock[set] == in) return;
            isBlock[set] = in;
            amount += in ? 1 : -1;
        }

        int setAt(int i) {
            int passed = 0;
            for (int set = 0; set < isBlock.length; set++) {
                if (isBlock[set] && passed++ == i) return set;
            }
            return ABSENT;
        }

        int union() {
            int all = 0;
            for (int set = 0; set < isBlock.length; set++) {
                if (isBlock[set]) all |= set;
            }
            return all;
        }

        boolean areKeptBy(Way way) {
            for (int set = 0; set < isBlock.length; set++) {
                if (isBlock[set] && !has(way.setFor(set))) return false;
            }
            return true;
        }

        int meeting(int set, int j) {
            int met = 0;
            for (int block = 0; block < isBlock.length; block++) {
                if (isBlock[block] && Integer.bitCount(block & set) == j) met++;
            }
            return met;
        }

        private int around(int inner) {
            int holding = 0;
            for (int set = inner; set >= 0 && set < isBlock.length; set++) {
                if (isBlock[set] && (set & inner) == inner) holding++;
            }
            return holding;
        }

        /** In how many each set of s of the ground's POINTS lies, if in as many each. */
        int shareOn(int ground, int s) {
            int common = ABSENT;
            for (int inner = 0; inner < MOST_SETS; inner++) {
                if ((inner & ~ground) == 0 && Integer.bitCount(inner) == s) {
                    int holding = around(inner);
                    if (common != ABSENT && common != holding) return ABSENT;
                    common = holding;
                }
            }
            return common;
        }

        int strengthOn(int ground) {
            for (int s = 1; s <= size; s++) {
                if (shareOn(ground, s) == ABSENT) return s - 1;
            }
            return size;
        }

        void turn(int n) {
            int whole = (1 << n) - 1;
            size = n - size;
            for (int set = 0; set < isBlock.length; set++) {
                int opposite = whole - set;
                if (opposite > set && opposite < isBlock.length) {
                    boolean kept = isBlock[set];
                    isBlock[set] = isBlock[opposite];
                    isBlock[opposite] = kept;
                }
            }
        }
    }

    /** All that THE IMAGE holds. */
    private static final class Setup {
        int n;
        int wayCount;
        int designCount;
        final Blocks blocks;
        private final Way[] ways;
        private final Blocks[] designs;

        Setup() {
            n = FIRST_POINTS;
            wayCount = 0;
            designCount = 0;
            blocks = new Blocks();
            ways = new Way[MOST_WAYS];
            for (int i = 0; i < ways.length; i++) ways[i] = new Way();
            designs = new Blocks[MOST_DESIGNS];
            for (int i = 0; i < designs.length; i++) designs[i] = new Blocks();
        }

        void restart(int newN) {
            n = newN;
            wayCount = 0;
            designCount = 0;
            blocks.becomeEmpty(FIRST_SIZE);
        }

        void copyFrom(Setup other) {
            n = other.n;
            blocks.copyFrom(other.blocks);
            wayCount = other.wayCount;
            for (int i = 0; i < wayCount; i++) {
                Way to = wayAt(i);
                Way from = other.wayAt(i);
                if (to != null && from != null) to.copyFrom(from);
            }
            designCount = other.designCount;
            for (int i = 0; i < designCount; i++) {
                Blocks to = designAt(i);
                Blocks from = other.designAt(i);
                if (to != null && from != null) to.copyFrom(from);
            }
        }

        boolean isPoint(int p) {
            return p >= 0 && p < n;
        }

        boolean isSize(int k) {
            return k >= 0 && k <= n;
        }

        boolean isSet(int set) {
            return set >= 0 && set <= whole();
        }

        int whole() {
            return (1 << n) - 1;
        }

        Way wayAt(int way) {
            if (way < 0 || way >= wayCount || way >= ways.length) return null;
            return ways[way];
        }

        /** The one that comes next, not yet counted; null if there are as many as can be. */
        Way spareWay() {
            if (wayCount < 0 || wayCount >= ways.length) return null;
            return ways[wayCount];
        }

        void removeWay(int way) {
            for (int i = way; i < wayCount - 1; i++) {
                Way to = wayAt(i);
                Way from = wayAt(i + 1);
                if (to != null && from != null) to.copyFrom(from);
            }
            wayCount--;
        }

        Blocks designAt(int design) {
            if (design < 0 || design >= designCount || design >= designs.length) return null;
            return designs[design];
        }

        /** The one that comes next, not yet counted; null if there are as many as can be. */
        Blocks spareDesign() {
            if (designCount < 0 || designCount >= designs.length) return null;
            return designs[designCount];
        }
    }

    /** The ORBITS of a set-up's sets, found anew for each call that asks for them. */
    private static final class Orbits {
        /** Of each set, among the ORBITS of its size; NONE beyond the POINTS that there are. */
        private final int[] number;
        private final int[] amount;
        private final int[] queue;

        Orbits() {
            number = new int[MOST_SETS];
            amount = new int[MOST_POINTS + 1];
            queue = new int[MOST_SETS];
        }

        void find(Setup setup) {
            Arrays.fill(number, NONE);
            Arrays.fill(amount, 0);
            for (int set = 0; set < number.length && set <= setup.whole(); set++) {
                int k = Integer.bitCount(set);
                if (number[set] == NONE && k < amount.length) {
                    spread(setup, set, amount[k]);
                    amount[k]++;
                }
            }
        }

        private void spread(Setup setup, int least, int orbit) {
            int filled = enter(least, orbit, 0);
            for (int head = 0; head < filled && head < queue.length; head++) {
                for (int w = 0; w < setup.wayCount; w++) {
                    Way way = setup.wayAt(w);
                    if (way != null) filled = enter(way.setFor(queue[head]), orbit, filled);
                }
            }
        }

        /** Answers how many stand in the queue then. */
        private int enter(int set, int orbit, int filled) {
            if (set < 0 || set >= number.length || number[set] != NONE) return filled;
            if (filled < 0 || filled >= queue.length) return filled;
            number[set] = orbit;
            queue[filled] = set;
            return filled + 1;
        }

        int amountOf(int k) {
            return k >= 0 && k < amount.length ? amount[k] : 0;
        }

        boolean isOrbit(int k, int i) {
            return i >= 0 && i < amountOf(k);
        }

        int numberOf(int set) {
            return set >= 0 && set < number.length ? number[set] : NONE;
        }

        private boolean holds(int k, int i, int set) {
            return numberOf(set) == i && Integer.bitCount(set) == k;
        }

        int setAt(int k, int i, int m) {
            int passed = 0;
            for (int set = 0; set < number.length; set++) {
                if (holds(k, i, set) && passed++ == m) return set;
            }
            return ABSENT;
        }

        int greatestOf(int k, int i) {
            for (int set = number.length - 1; set >= 0; set--) {
                if (holds(k, i, set)) return set;
            }
            return ABSENT;
        }

        int setsIn(int k, int i) {
            return setsAround(k, i, 0);
        }

        int setsAround(int k, int i, int inner) {
            int holding = 0;
            for (int set = 0; set < number.length; set++) {
                if (holds(k, i, set) && (set & inner) == inner) holding++;
            }
            return holding;
        }
    }

    /** Counts THE GROUP, each way to take POINTS told by three bits for each POINT. */
    private static final class Group {
        private final int[] elements;
        private final int[] slots;
        private int filled;

        Group() {
            elements = new int[MOST_ORDER];
            slots = new int[ORDER_SLOTS];
        }

        int orderOf(Setup setup) {
            Arrays.fill(slots, NONE);
            filled = 0;
            enter(stillness());
            for (int head = 0; head < filled && head < elements.length; head++) {
                for (int w = 0; w < setup.wayCount; w++) {
                    Way way = setup.wayAt(w);
                    if (way != null) enter(followedBy(elements[head], way));
                }
            }
            return filled;
        }

        private static int stillness() {
            int code = 0;
            for (int p = 0; p < MOST_POINTS; p++) code |= p << 3 * p;
            return code;
        }

        private static int followedBy(int code, Way way) {
            int next = 0;
            for (int p = 0; p < MOST_POINTS; p++) {
                next |= way.pointFor(code >> 3 * p & 7) << 3 * p;
            }
            return next;
        }

        private void enter(int code) {
            int slot = code * ORDER_MIX >>> ORDER_SHIFT;
            for (int tries = 0; tries < slots.length; tries++) {
                if (slot < 0 || slot >= slots.length) slot = 0;
                if (slots[slot] == code) return;
                if (slots[slot] == NONE) {
                    append(slot, code);
                    return;
                }
                slot++;
            }
        }

        private void append(int slot, int code) {
            if (filled >= elements.length || filled < 0) return;
            if (slot < 0 || slot >= slots.length) return;
            slots[slot] = code;
            elements[filled] = code;
            filled++;
        }
    }

    /** Looks through the CHOICES of ORBITS of k, in the order of their bits, by the TABLE of t and k. */
    private static final class Choices {
        private final int[] numbers;
        private final int[] coverers;
        private final int[] need;
        private final int[] free;
        private final int[] sets;
        private final int[] early;
        private int rows;
        private int columns;
        private int wanted;
        int solutions;
        int fewest;
        int answer;

        Choices() {
            numbers = new int[MOST_ORBITS * MOST_COLUMNS];
            coverers = new int[MOST_ORBITS];
            need = new int[MOST_ORBITS];
            free = new int[MOST_ORBITS];
            sets = new int[MOST_COLUMNS];
            early = new int[MOST_UNLIKE];
        }

        void load(Orbits orbits, int t, int k) {
            rows = Math.min(orbits.amountOf(t), MOST_ORBITS);
            columns = Math.min(orbits.amountOf(k), MOST_COLUMNS);
            Arrays.fill(numbers, 0);
            Arrays.fill(coverers, 0);
            for (int j = 0; j < columns && j < sets.length; j++) sets[j] = orbits.setsIn(k, j);
            for (int i = 0; i < rows; i++) loadRow(orbits, k, i, orbits.setAt(t, i, 0));
        }

        private void loadRow(Orbits orbits, int k, int row, int inner) {
            for (int set = 0; set < MOST_SETS; set++) {
                if ((set & inner) == inner && Integer.bitCount(set) == k) {
                    countSet(row, orbits.numberOf(set));
                }
            }
        }

        private void countSet(int row, int column) {
            if (row < 0 || row >= coverers.length || column < 0 || column >= columns) return;
            int place = row * MOST_COLUMNS + column;
            if (place < numbers.length) numbers[place]++;
            coverers[row] |= 1 << column;
        }

        private int numberAt(int row, int column) {
            int place = row * MOST_COLUMNS + column;
            return place >= 0 && place < numbers.length ? numbers[place] : 0;
        }

        /** Counts the CHOICES that SOLVE; the answer is the one with the wanted number. */
        void solve(int aim, int newWanted) {
            wanted = newWanted;
            solutions = 0;
            answer = ABSENT;
            for (int i = 0; i < rows && i < need.length && i < free.length; i++) {
                need[i] = aim;
                free[i] = 0;
                for (int j = 0; j < columns; j++) free[i] += numberAt(i, j);
            }
            searchSolutions(columns - 1, 0);
        }

        /** All ORBITS above the column are chosen or left; the column's number tells the depth. */
        private void searchSolutions(int column, int choice) {
            if (column >= MOST_COLUMNS) return;
            if (column < 0) {
                noteSolution(choice);
                return;
            }
            change(column, 0, -1);
            if (canSolve()) searchSolutions(column - 1, choice);
            change(column, -1, 0);
            if (canSolve()) searchSolutions(column - 1, choice | 1 << column);
            change(column, 1, 1);
        }

        private void change(int column, int needTimes, int freeTimes) {
            for (int i = 0; i < rows && i < need.length && i < free.length; i++) {
                int number = numberAt(i, column);
                need[i] += needTimes * number;
                free[i] += freeTimes * number;
            }
        }

        private boolean canSolve() {
            for (int i = 0; i < rows && i < need.length && i < free.length; i++) {
                if (need[i] < 0 || need[i] > free[i]) return false;
            }
            return true;
        }

        private void noteSolution(int choice) {
            if (solutions == wanted) answer = choice;
            if (solutions >= 0 && solutions < early.length) early[solutions] = choice;
            solutions++;
        }

        int earlySolution(int i) {
            return i >= 0 && i < early.length ? early[i] : 0;
        }

        /** The answer is the CHOICE with the fewest sets that COVERS. */
        void findFewest() {
            fewest = Integer.MAX_VALUE;
            answer = ABSENT;
            searchCovers(columns - 1, 0, 0);
        }

        private void searchCovers(int column, int choice, int setsTogether) {
            if (column >= MOST_COLUMNS || setsTogether >= fewest) return;
            if (!covers(choice | (1 << column + 1) - 1)) return;
            if (column < 0 || column >= sets.length) {
                fewest = setsTogether;
                answer = choice;
                return;
            }
            searchCovers(column - 1, choice, setsTogether);
            searchCovers(column - 1, choice | 1 << column, setsTogether + sets[column]);
        }

        private boolean covers(int choice) {
            for (int i = 0; i < rows && i < coverers.length; i++) {
                if ((choice & coverers[i]) == 0) return false;
            }
            return true;
        }
    }

    /** Looks for ways to take POINTS to POINTS that take one row of BLOCKS to another. */
    private static final class Matcher {
        /** Where each set of the POINTS placed so far goes. */
        private final int[] placed;

        Matcher() {
            placed = new int[MOST_SETS];
        }

        boolean areAlike(Blocks one, Blocks other, int n) {
            return canPlace(one, other, n, 0, 0);
        }

        /**
         * Where each POINT can go while all ahead of it stay, multiplied: to look for one way for each
         * of these is far less than to count all ways.
         */
        int selvesOf(Blocks blocks, int n) {
            int ways = 1;
            int staying = 0;
            for (int p = 0; p < n && p < MOST_POINTS; p++) {
                int goals = 0;
                for (int to = p; to < n; to++) {
                    boolean goes = fits(blocks, blocks, p, to)
                            && canPlace(blocks, blocks, n, p + 1, staying | 1 << to);
                    if (goes) goals++;
                }
                ways *= goals;
                fits(blocks, blocks, p, p);
                staying |= 1 << p;
            }
            return ways;
        }

        /** Whether POINTS from p on can be placed on those not used; p tells the depth. */
        private boolean canPlace(Blocks one, Blocks other, int n, int p, int used) {
            if (p >= n || p >= MOST_POINTS) return true;
            for (int to = 0; to < n; to++) {
                boolean open = (used >> to & 1) == 0;
                if (open && fits(one, other, p, to) && canPlace(one, other, n, p + 1, used | 1 << to)) {
                    return true;
                }
            }
            return false;
        }

        /** Whether all sets of the POINTS 0 .. p are BLOCKS on both sides or on none, if p goes there. */
        private boolean fits(Blocks one, Blocks other, int p, int to) {
            int first = 1 << p;
            for (int rest = 0; rest < first && first + rest < placed.length; rest++) {
                int image = (rest == 0 ? 0 : placed[rest]) | 1 << to;
                placed[first + rest] = image;
                if (one.has(first + rest) != other.has(image)) return false;
            }
            return true;
        }
    }

    /** ORBITS chosen by DRAWS. */
    private static final class Lottery {
        private final boolean[] chosen;
        private final int[] setsWith;
        private int seed;
        int evenOnes;
        int setsTogether;

        Lottery() {
            chosen = new boolean[MOST_ORBITS];
            setsWith = new int[MOST_POINTS];
        }

        void play(Orbits orbits, int n, int k, int times, int z) {
            seed = z;
            evenOnes = 0;
            setsTogether = 0;
            for (int i = 0; i < times; i++) {
                drawOrbits(orbits.amountOf(k));
                countSets(orbits, k);
                if (isEven(n)) evenOnes++;
            }
        }

        private void drawOrbits(int amount) {
            for (int i = 0; i < amount && i < chosen.length; i++) chosen[i] = drawBelowTwo() == 1;
        }

        private int drawBelowTwo() {
            seed = seed * 1103515245 + 12345;
            return (seed & Integer.MAX_VALUE) / 65536 % 2;
        }

        private void countSets(Orbits orbits, int k) {
            Arrays.fill(setsWith, 0);
            for (int set = 0; set < MOST_SETS; set++) {
                int i = orbits.numberOf(set);
                if (i >= 0 && i < chosen.length && chosen[i] && Integer.bitCount(set) == k) {
                    countSet(set);
                }
            }
        }

        private void countSet(int set) {
            setsTogether++;
            for (int p = 0; p < setsWith.length; p++) setsWith[p] += set >> p & 1;
        }

        private boolean isEven(int n) {
            for (int p = 1; p < n && p < setsWith.length; p++) {
                if (setsWith[p] != setsWith[p - 1]) return false;
            }
            return true;
        }
    }

    /** THE TEXT and how its CLAUSES are built. */
    private static final class Text {
        int length;
        private final int[] signs;

        Text() {
            length = 0;
            signs = new int[MOST_TEXT];
        }

        boolean append(int sign) {
            if (length < 0 || length >= signs.length) return false;
            signs[length] = sign;
            length++;
            return true;
        }

        int signAt(int place) {
            return place >= 0 && place < length && place < signs.length ? signs[place] : NONE;
        }

        int digitAt(int place) {
            int sign = signAt(place);
            return sign >= '0' && sign <= '9' ? sign - '0' : NONE;
        }

        /** How many DIGITS stand from a place on, counted up to a bound. */
        int digitsFrom(int place, int most) {
            for (int i = 0; i < most; i++) {
                if (digitAt(place + i) == NONE) return i;
            }
            return most;
        }

        int numberIn(int start, int end) {
            int number = 0;
            for (int place = start; place < end; place++) number = number * 10 + digitAt(place);
            return number;
        }

        /** The place of THE FAULT, NONE without one. */
        int fault() {
            int start = 0;
            for (int clause = 1; clause <= MOST_CLAUSES; clause++) {
                int letter = signAt(start);
                int most = mostDigits(letter);
                if (most == 0) return start;
                int digits = digitsFrom(start + 1, most);
                int end = start + 1 + digits;
                if (digits < leastDigits(letter)) return end;
                if (end >= length) return NONE;
                if (signAt(end) != ';' || clause == MOST_CLAUSES) return end;
                start = end + 1;
            }
            return start;
        }

        private static int leastDigits(int letter) {
            return letter == 'h' ? 3 : letter == 'b' ? 1 : mostDigits(letter);
        }

        /** 0 if no CLAUSE begins with the sign. */
        private static int mostDigits(int letter) {
            switch (letter) {
                case 'n': return 1;
                case 'g': case 'k': return 2;
                case 'h': case 'b': return 8;
                default: return 0;
            }
        }
    }

    /** A row of numbers of one sort; each is held as a long that is cut to what the sort can hold. */
    private static final class Tape {
        int sort;
        int length;
        private final long[] items;

        Tape() {
            sort = EMPTY;
            length = 0;
            items = new long[MOST_ITEMS];
        }

        void become(int newSort, int newLength) {
            sort = newSort;
            length = Math.max(0, Math.min(newLength, items.length));
            Arrays.fill(items, 0L);
        }

        private boolean isPlace(int i) {
            return i >= 0 && i < length && i < items.length;
        }

        long itemAt(int i) {
            return isPlace(i) ? items[i] : NO;
        }

        void put(int i, long v) {
            if (isPlace(i)) items[i] = cut(v);
        }

        private long cut(long v) {
            switch (sort) {
                case BYTES: return (byte) v;
                case SHORTS: return (short) v;
                case INTS: return (int) v;
                case BOOLEANS: return v != 0 ? 1 : 0;
                default: return v;
            }
        }

        boolean hasPlaces(int i, int n) {
            return n >= 0 && i >= 0 && i <= length && n <= length - i;
        }

        void copyItems(int to, Tape other, int from, int n) {
            if (!hasPlaces(to, n) || !other.hasPlaces(from, n)) return;
            System.arraycopy(other.items, from, items, to, n);
        }
    }
}
