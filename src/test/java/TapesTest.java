/** Promises 34 and 38 to 41: judge, tape, item, peek, shift. */
public final class TapesTest {
    private static final Due DUE = new Due("TapesTest");
    private static final long NO = OrbitDesigns.NO;

    public static void main(String[] args) {
        tape();
        item();
        peek();
        shift();
        shiftRefusals();
        judge();
        DUE.end();
    }

    private static void tape() {
        OrbitDesigns x = new OrbitDesigns();
        DUE.is("tape(6, 0, 1)", x.tape(6, 9, 1), -1);
        DUE.is("tape(-1, 0, 1)", x.tape(-1, 0, 1), -1);
        DUE.is("sort 5", x.tape(0, 5, 1), -2);
        DUE.is("sort -2", x.tape(0, -2, -1), -2);
        DUE.is("n 61", x.tape(0, 0, 61), -2);
        DUE.is("n -1", x.tape(0, 0, -1), -14);
        DUE.is("n min", x.tape(0, 4, Integer.MIN_VALUE), -14);
        DUE.is("nothing yet", x.peek(0, 0), NO);
        for (int sort = 0; sort < 5; sort++) DUE.is("tape of " + sort, x.tape(sort, sort, 60), 1);
        DUE.is("tape 5", x.tape(5, 0, 0), 1);
        for (int sort = 0; sort < 5; sort++) DUE.is("all 0", x.peek(sort, 59), 0);
        DUE.is("behind the end", x.peek(0, 60), NO);
        DUE.is("empty row", x.peek(5, 0), NO);
        x.item(0, 3, 9);
        DUE.is("made anew", x.tape(0, 3, 5), 1);
        DUE.is("all 0 again", x.peek(0, 3), 0);
        DUE.is("shorter", x.peek(0, 5), NO);
        DUE.is("refused", x.tape(0, 3, 61), -2);
        DUE.is("stays", x.peek(0, 4), 0);
        DUE.is("nothing, n 99", x.tape(0, -1, 99), 1);
        DUE.is("nothing there", x.item(0, 0, 1), -11);
        DUE.is("nothing to peek at", x.peek(0, 0), NO);
        DUE.is("nothing, n -9", x.tape(1, -1, -9), 1);
        DUE.is("nothing there", x.item(1, 0, 1), -11);
    }

    private static void put(OrbitDesigns x, int tape, long v, long due) {
        DUE.is("item of " + v, x.item(tape, 1, v), 1);
        DUE.is("peek of " + v, x.peek(tape, 1), due);
    }

    private static void item() {
        OrbitDesigns x = new OrbitDesigns();
        for (int sort = 0; sort < 5; sort++) x.tape(sort, sort, 3);
        long big = 0x123456789abcdef0L;
        put(x, 0, 127, 127);
        put(x, 0, 128, -128);
        put(x, 0, -129, 127);
        put(x, 0, big, (byte) 0xf0);
        put(x, 1, 32767, 32767);
        put(x, 1, 32768, -32768);
        put(x, 1, big, (short) 0xdef0);
        put(x, 2, 1L << 31, Integer.MIN_VALUE);
        put(x, 2, big, 0x9abcdef0);
        put(x, 3, big, big);
        put(x, 3, NO, NO);
        put(x, 4, 0, 0);
        put(x, 4, 1, 1);
        put(x, 4, 2, 1);
        put(x, 4, 1L << 40, 1);
        put(x, 4, -1, 1);
        put(x, 4, 0, 0);
        DUE.is("others stay", x.peek(0, 0), 0);
        DUE.is("others stay", x.peek(0, 2), 0);
        DUE.is("tape 6", x.item(6, 0, 0), -1);
        DUE.is("tape -1", x.item(-1, -1, 0), -1);
        DUE.is("nothing", x.item(5, -1, 0), -11);
        DUE.is("place -1", x.item(0, -1, 0), -13);
        DUE.is("place 3", x.item(0, 3, 0), -13);
        DUE.is("place max", x.item(0, Integer.MAX_VALUE, 0), -13);
    }

    private static void peek() {
        OrbitDesigns x = new OrbitDesigns();
        x.tape(2, 2, 2);
        x.item(2, 1, -7);
        DUE.is("peek(2, 1)", x.peek(2, 1), -7);
        DUE.is("peek(2, 0)", x.peek(2, 0), 0);
        DUE.is("peek(2, 2)", x.peek(2, 2), NO);
        DUE.is("peek(2, -1)", x.peek(2, -1), NO);
        DUE.is("peek(3, 0)", x.peek(3, 0), NO);
        DUE.is("peek(6, 0)", x.peek(6, 0), NO);
        DUE.is("peek(-1, 0)", x.peek(-1, 0), NO);
        DUE.is("peek(min, min)", x.peek(Integer.MIN_VALUE, Integer.MIN_VALUE), NO);
    }

    private static OrbitDesigns counting() {
        OrbitDesigns x = new OrbitDesigns();
        x.tape(0, 2, 6);
        x.tape(1, 2, 4);
        for (int i = 0; i < 6; i++) x.item(0, i, i + 1);
        for (int i = 0; i < 4; i++) x.item(1, i, 10 * (i + 1));
        return x;
    }

    private static void row(String call, OrbitDesigns x, int tape, long... due) {
        for (int i = 0; i < due.length; i++) DUE.is(call + " at " + i, x.peek(tape, i), due[i]);
    }

    private static void shift() {
        OrbitDesigns x = counting();
        DUE.is("to the other", x.shift(0, 1, 1, 2, 2), 2);
        row("to the other", x, 1, 10, 20, 2, 3);
        row("from the one", x, 0, 1, 2, 3, 4, 5, 6);
        DUE.is("up", x.shift(0, 0, 0, 2, 4), 4);
        row("up", x, 0, 1, 2, 1, 2, 3, 4);
        x = counting();
        DUE.is("down", x.shift(0, 2, 0, 1, 4), 4);
        row("down", x, 0, 1, 3, 4, 5, 6, 6);
        DUE.is("all", x.shift(1, 0, 1, 0, 4), 4);
        DUE.is("none at the ends", x.shift(0, 6, 1, 4, 0), 0);
        DUE.is("none", x.shift(0, 0, 1, 0, 0), 0);
        row("stays", x, 1, 10, 20, 30, 40);
    }

    private static void shiftRefusals() {
        OrbitDesigns x = counting();
        x.tape(2, 3, 6);
        DUE.is("tape 6", x.shift(6, 0, 1, 0, 1), -1);
        DUE.is("other 6", x.shift(5, 0, 6, 0, 1), -1);
        DUE.is("tape -1", x.shift(-1, 0, 1, 0, 1), -1);
        DUE.is("other -1", x.shift(0, 0, -1, 0, 1), -1);
        DUE.is("nothing", x.shift(5, 0, 0, 0, 1), -11);
        DUE.is("nothing in the other", x.shift(0, 0, 5, 0, -1), -11);
        DUE.is("unlike sorts", x.shift(0, 0, 2, 0, -1), -12);
        DUE.is("n -1", x.shift(0, 0, 1, 0, -1), -13);
        DUE.is("i -1", x.shift(0, -1, 1, 0, 1), -13);
        DUE.is("j -1", x.shift(0, 0, 1, -1, 1), -13);
        DUE.is("beyond the one", x.shift(0, 5, 1, 0, 2), -13);
        DUE.is("beyond the other", x.shift(0, 0, 1, 3, 2), -13);
        DUE.is("none beyond the one", x.shift(0, 7, 1, 0, 0), -13);
        DUE.is("none beyond the other", x.shift(0, 0, 1, 5, 0), -13);
        int max = Integer.MAX_VALUE;
        DUE.is("n max", x.shift(0, 1, 1, 1, max), -13);
        DUE.is("i max", x.shift(0, max, 1, 0, 1), -13);
        DUE.is("j max", x.shift(0, 0, 1, max, 1), -13);
        DUE.is("all max", x.shift(0, max, 1, max, max), -13);
        row("stays", x, 1, 10, 20, 30, 40);
    }

    private static void judge() {
        OrbitDesigns x = Due.of(7);
        int[] fano = {11, 22, 44, 49, 69, 88, 98};
        DUE.is("no blocks, nothing", x.judge(0, 0), -5);
        DUE.is("no blocks, place -1", x.judge(0, -1), -5);
        x.tape(0, 1, 10);
        DUE.is("no blocks, a row", x.judge(0, 99), -5);
        x.tape(1, 2, 10);
        DUE.is("no blocks, another sort", x.judge(1, 0), -12);
        DUE.is("tape 6", x.judge(6, 0), -1);
        DUE.is("tape -1", x.judge(-1, 0), -1);
        x.choose(3, 0);
        for (int i = 0; i < 7; i++) {
            x.block(fano[i]);
            x.item(0, i + 2, fano[i]);
        }
        DUE.is("right", x.judge(0, 2), -5);
        DUE.is("from 0", x.judge(0, 0), 0);
        DUE.is("from -1", x.judge(0, -1), 100);
        DUE.is("from min", x.judge(0, Integer.MIN_VALUE), 100);
        DUE.is("from the end", x.judge(0, 10), 100);
        DUE.is("from max", x.judge(0, Integer.MAX_VALUE), 100);
        DUE.is("nothing", x.judge(2, 0), 100);
        DUE.is("another sort", x.judge(1, 0), -12);
        DUE.is("another sort, place -1", x.judge(1, -1), -12);
        x.item(0, 6, 68);
        DUE.is("the fifth", x.judge(0, 2), 4);
        x.tape(0, 1, 5);
        for (int i = 0; i < 3; i++) x.item(0, i + 2, fano[i]);
        DUE.is("three looked at", x.judge(0, 2), 103);
        x.item(0, 4, 45);
        DUE.is("the third", x.judge(0, 2), 2);
        x.item(0, 4, 44 + 65536);
        DUE.is("cut to a short", x.judge(0, 2), 103);
        x.tape(0, 1, 0);
        DUE.is("a row of none", x.judge(0, 0), 100);
        for (int sort = 0; sort < 5; sort++) {
            x.tape(3, sort, 9);
            DUE.is("sort " + sort, x.judge(3, 0), sort == 1 ? 0 : -12);
        }
        x.turned();
        x.tape(0, 1, 7);
        for (int i = 0; i < 7; i++) x.item(0, i, 127 - fano[6 - i]);
        DUE.is("the least first", x.judge(0, 0), -5);
    }
}
