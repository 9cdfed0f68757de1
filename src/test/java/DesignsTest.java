/** Promises 26 to 29 and 35 to 37: keep, design, alike, selves, image, undo, count. */
public final class DesignsTest {
    private static final Due DUE = new Due("DesignsTest");

    public static void main(String[] args) {
        keepAndDesign();
        alike();
        selves();
        image();
        count();
        DUE.end();
    }

    private static void keepAndDesign() {
        OrbitDesigns x = new OrbitDesigns();
        DUE.is("design(0, 0) of none", x.design(0, 0), -1);
        DUE.is("keep() of no blocks", x.keep(), 0);
        x.choose(3, 3);
        DUE.is("keep()", x.keep(), 1);
        x.block(7);
        DUE.is("K", x.design(1, 0), 3);
        DUE.is("the kept ones stay", x.design(1, 1), 2);
        DUE.is("K of none", x.design(0, 0), 2);
        DUE.is("no blocks", x.design(0, 1), 0);
        DUE.is("what 2", x.design(0, 2), -1);
        DUE.is("what -1", x.design(0, -1), -1);
        DUE.is("design 2", x.design(2, 0), -1);
        DUE.is("design -1", x.design(-1, 0), -1);
        DUE.is("keep()", x.keep(), 2);
        DUE.is("keep()", x.keep(), 3);
        DUE.is("keep() of four", x.keep(), -4);
        DUE.is("four", x.count(3), 4);
        x.points(5);
        DUE.is("none then", x.design(0, 0), -1);
    }

    private static OrbitDesigns keeping(int n, int k, int[]... designs) {
        OrbitDesigns x = Due.of(n);
        for (int[] sets : designs) {
            x.choose(k, 0);
            for (int set : sets) x.block(set);
            x.keep();
        }
        return x;
    }

    private static void alike() {
        OrbitDesigns x = keeping(5, 2, new int[] {3, 6}, new int[] {24, 17}, new int[] {3, 24}, new int[] {3, 6, 5});
        DUE.is("paths", x.alike(0, 1), 1);
        DUE.is("paths, the other way", x.alike(1, 0), 1);
        DUE.is("itself", x.alike(0, 0), 1);
        DUE.is("path and two lines", x.alike(0, 2), 0);
        DUE.is("fewer in more", x.alike(0, 3), 0);
        DUE.is("more in fewer", x.alike(3, 0), 0);
        DUE.is("design 4", x.alike(4, 0), -1);
        DUE.is("other 4", x.alike(0, 4), -1);
        DUE.is("design -1", x.alike(-1, 0), -1);
        DUE.is("other -1", x.alike(0, -1), -1);
        OrbitDesigns y = Due.of(5);
        y.keep();
        y.choose(4, 0);
        y.keep();
        y.choose(4, 1);
        y.keep();
        y.choose(1, 1);
        y.keep();
        DUE.is("no blocks, other K", y.alike(0, 1), 1);
        DUE.is("none and one", y.alike(0, 2), 0);
        DUE.is("other K", y.alike(2, 3), 0);
        OrbitDesigns s = keeping(7, 3, new int[] {11, 22, 44, 88, 49, 98, 69}, new int[] {13, 26, 52, 104, 81, 35, 70},
                new int[] {7, 14, 28, 56, 112, 97, 67});
        DUE.is("n 7, planes", s.alike(0, 1), 1);
        DUE.is("n 7, a plane and a ring", s.alike(0, 2), 0);
        OrbitDesigns z = Due.of(8);
        DUE.is("n 8, none", z.alike(0, 0), -1);
        z.keep();
        DUE.is("n 8", z.alike(0, 0), -3);
        DUE.is("n 8, other 1", z.alike(0, 1), -1);
        // as many at each POINT, but not alike: a ring of six and two of three
        OrbitDesigns r = keeping(6, 2, new int[] {3, 6, 12, 24, 48, 33}, new int[] {3, 6, 5, 24, 48, 40});
        DUE.is("rings", r.alike(0, 1), 0);
    }

    private static void selves() {
        OrbitDesigns x = Due.of(7);
        x.keep();
        DUE.is("no blocks", x.selves(0), 5040);
        x.choose(3, 0);
        int[] fano = {11, 22, 44, 49, 69, 88, 98};
        for (int set : fano) x.block(set);
        x.keep();
        DUE.is("fano", x.selves(1), 168);
        x.block(7);
        x.keep();
        DUE.is("one more", x.selves(2), 6);
        DUE.is("design 3", x.selves(3), -1);
        DUE.is("design -1", x.selves(-1), -1);
        OrbitDesigns y = Due.of(8);
        DUE.is("n 8, none", y.selves(0), -1);
        y.keep();
        DUE.is("n 8", y.selves(0), -3);
        OrbitDesigns z = keeping(6, 2, new int[] {3, 6, 12, 24, 48, 33}, new int[] {3, 6, 5, 24, 48, 40});
        DUE.is("ring of six", z.selves(0), 12);
        DUE.is("two of three", z.selves(1), 72);
        DUE.is("one point of three", keeping(3, 1, new int[] {2}).selves(0), 2);
    }

    private static void image() {
        OrbitDesigns x = Due.of(6);
        x.way(0, 1);
        x.hand(213456);
        x.choose(3, 1);
        x.keep();
        int many = x.count(2);
        DUE.is("undo() of none", x.undo(), -3);
        DUE.is("image()", x.image(), many);
        x.feed('n');
        x.tape(0, 1, 4);
        x.points(4);
        x.way(1, 1);
        x.block(3);
        x.keep();
        x.keep();
        DUE.is("undo()", x.undo(), many);
        DUE.is("n", x.count(0), 6);
        DUE.is("ways", x.count(1), 2);
        DUE.is("kind", x.wayOf(0, 0), 0);
        DUE.is("takes", x.takes(0, 5), 0);
        DUE.is("takes by hand", x.takes(1, 0), 1);
        DUE.is("K", x.blocks(0), 3);
        DUE.is("designs", x.count(3), 1);
        DUE.is("design's K", x.design(0, 0), 3);
        DUE.is("design's blocks", x.design(0, 1), many);
        DUE.is("the text stays", x.count(4), 1);
        DUE.is("the tape stays", x.peek(0, 3), 0);
        x.drop(0);
        x.turned();
        x.block(x.blockOf(0));
        DUE.is("undo() again", x.undo(), many);
        DUE.is("ways again", x.count(1), 2);
        DUE.is("block again", x.blockOf(0), 7);
        x.points(3);
        DUE.is("a new image()", x.image(), 0);
        x.points(8);
        DUE.is("undo() to the new one", x.undo(), 0);
        DUE.is("n 3", x.count(0), 3);
        x.read();
        DUE.is("undo() leaves the text", x.undo(), 0);
        DUE.is("empty as it was", x.count(4), 0);
    }

    private static void count() {
        OrbitDesigns x = Due.of(7);
        x.way(0, 1);
        x.way(0, 2);
        x.way(0, 3);
        x.block(3);
        x.block(5);
        x.keep();
        x.feed('a');
        x.feed('b');
        x.feed('c');
        x.feed('d');
        int[] due = {7, 3, 2, 1, 4};
        for (int what = 0; what < 5; what++) DUE.is("count(" + what + ")", x.count(what), due[what]);
        DUE.is("count(5)", x.count(5), -2);
        DUE.is("count(-1)", x.count(-1), -2);
    }
}
