/** Promises 19 to 25: block, blockOf, blocks, share, meets, turned, parted. */
public final class BlocksTest {
    private static final Due DUE = new Due("BlocksTest");

    public static void main(String[] args) {
        block();
        blockOf();
        blocks();
        share();
        meets();
        turned();
        parted();
        DUE.end();
    }

    private static OrbitDesigns fano() {
        OrbitDesigns x = Due.of(7);
        x.way(0, 1);
        x.choose(3, 1 << x.orbitOf(11));
        return x;
    }

    private static void block() {
        OrbitDesigns x = new OrbitDesigns();
        DUE.is("block(3)", x.block(3), 1);
        DUE.is("block(24)", x.block(24), 2);
        DUE.is("block(3) again", x.block(3), 1);
        DUE.is("it went", x.blockOf(0), 24);
        DUE.is("block(7)", x.block(7), -1);
        DUE.is("block(0)", x.block(0), -1);
        DUE.is("block(1)", x.block(1), -1);
        DUE.is("block(33)", x.block(33), -1);
        DUE.is("block(-1)", x.block(-1), -1);
        DUE.is("block(min)", x.block(Integer.MIN_VALUE + 1), -1);
        DUE.is("one is left", x.count(2), 1);
        x.choose(5, 0);
        DUE.is("block(31)", x.block(31), 1);
    }

    private static void blockOf() {
        OrbitDesigns x = fano();
        int[] due = {11, 22, 44, 49, 69, 88, 98};
        for (int i = 0; i < 7; i++) DUE.is("blockOf(" + i + ")", x.blockOf(i), due[i]);
        DUE.is("blockOf(7)", x.blockOf(7), -5);
        DUE.is("blockOf(max)", x.blockOf(Integer.MAX_VALUE), -5);
        DUE.is("blockOf(-1)", x.blockOf(-1), -1);
        DUE.is("blockOf(0) of none", new OrbitDesigns().blockOf(0), -5);
    }

    private static void blocks() {
        OrbitDesigns x = fano();
        DUE.is("K", x.blocks(0), 3);
        DUE.is("how many", x.blocks(1), 7);
        DUE.is("strength", x.blocks(2), 2);
        DUE.is("points", x.blocks(3), 7);
        DUE.is("what 4", x.blocks(4), -1);
        DUE.is("what -1", x.blocks(-1), -1);
        x.choose(3, 0);
        DUE.is("without blocks strength is K", x.blocks(2), 3);
        DUE.is("without blocks no points", x.blocks(3), 0);
        x.block(7);
        DUE.is("of one block", x.blocks(2), 0);
        DUE.is("three points", x.blocks(3), 3);
        x.block(56);
        DUE.is("six points", x.blocks(3), 6);
        OrbitDesigns y = Due.of(4);
        y.choose(2, 63);
        DUE.is("all pairs", y.blocks(2), 2);
        y.choose(4, 1);
        DUE.is("the whole", y.blocks(2), 4);
        y.choose(2, 0);
        y.block(3);
        y.block(12);
        DUE.is("two lines", y.blocks(2), 1);
        OrbitDesigns z = Due.of(8);
        z.way(4, 1);
        z.choose(4, (1 << z.orbitOf(139)) | (1 << z.orbitOf(127 & ~11)));
        DUE.is("fourteen", z.blocks(1), 14);
        DUE.is("strength 3", z.blocks(2), 3);
    }

    private static void share() {
        OrbitDesigns x = fano();
        DUE.is("share(0)", x.share(0), 7);
        DUE.is("share(1)", x.share(1), 3);
        DUE.is("share(2)", x.share(2), 1);
        DUE.is("share(3)", x.share(3), -5);
        DUE.is("share(4)", x.share(4), -2);
        DUE.is("share(-1)", x.share(-1), -2);
        OrbitDesigns y = new OrbitDesigns();
        DUE.is("share(0) of none", y.share(0), 0);
        DUE.is("share(2) of none", y.share(2), 0);
        DUE.is("share(3) of none", y.share(3), -2);
        y.choose(2, 1023);
        DUE.is("share(2) of all", y.share(2), 1);
        DUE.is("share(1) of all", y.share(1), 4);
        y.block(24);
        DUE.is("share(1) of all but one", y.share(1), -5);
        DUE.is("share(0) of all but one", y.share(0), 9);
    }

    private static void meets() {
        OrbitDesigns x = fano();
        DUE.is("in one", x.meets(11, 1), 6);
        DUE.is("in three", x.meets(11, 3), 1);
        DUE.is("in none", x.meets(11, 0), 0);
        DUE.is("the empty set", x.meets(0, 0), 7);
        DUE.is("the whole", x.meets(127, 3), 7);
        DUE.is("j 8", x.meets(127, 8), 0);
        DUE.is("j 9", x.meets(127, 9), -2);
        DUE.is("j -1", x.meets(127, -1), -2);
        DUE.is("set 128", x.meets(128, 9), -1);
        DUE.is("set -1", x.meets(-1, 0), -1);
    }

    private static void turned() {
        OrbitDesigns x = fano();
        DUE.is("turned()", x.turned(), 7);
        DUE.is("K 4", x.blocks(0), 4);
        DUE.is("the least", x.blockOf(0), 127 - 98);
        DUE.is("the greatest", x.blockOf(6), 127 - 11);
        DUE.is("turned() back", x.turned(), 7);
        DUE.is("K 3", x.blocks(0), 3);
        DUE.is("the least", x.blockOf(0), 11);
        OrbitDesigns y = new OrbitDesigns();
        DUE.is("turned() of none", y.turned(), 0);
        DUE.is("K 3 of none", y.blocks(0), 3);
        y.choose(5, 1);
        DUE.is("K is n", y.turned(), -3);
        DUE.is("K stays", y.blocks(0), 5);
        y.choose(5, 0);
        DUE.is("K is n without blocks", y.turned(), -3);
        y.choose(1, 31);
        DUE.is("K 1", y.turned(), 5);
        DUE.is("K 4", y.blocks(0), 4);
        DUE.is("the least of 4", y.blockOf(0), 15);
        y.points(3);
        y.choose(1, 2);
        y.turned();
        DUE.is("the others of three", y.blockOf(0), 5);
    }

    private static void parted() {
        OrbitDesigns x = fano();
        for (int p = 0; p < 7; p++) {
            DUE.is("with " + p, x.parted(p, 0), 3);
            DUE.is("strength with " + p, x.parted(p, 1), 1);
            DUE.is("strength without " + p, x.parted(p, 2), 1);
        }
        DUE.is("p 7", x.parted(7, 0), -1);
        DUE.is("p -1", x.parted(-1, 0), -1);
        DUE.is("what 3", x.parted(0, 3), -1);
        DUE.is("what -1", x.parted(0, -1), -1);
        DUE.is("blocks stay", x.count(2), 7);
        OrbitDesigns y = new OrbitDesigns();
        DUE.is("none with", y.parted(0, 0), 0);
        DUE.is("no strength with", y.parted(0, 1), -5);
        DUE.is("no strength without", y.parted(0, 2), -5);
        y.block(3);
        DUE.is("one with", y.parted(0, 0), 1);
        DUE.is("uneven with", y.parted(0, 1), 0);
        DUE.is("none without", y.parted(0, 2), -5);
        DUE.is("none with 4", y.parted(4, 1), -5);
        DUE.is("uneven without 4", y.parted(4, 2), 0);
        y.choose(2, 1023);
        DUE.is("all with", y.parted(2, 0), 4);
        DUE.is("all with, strength", y.parted(2, 1), 1);
        DUE.is("all without, strength", y.parted(2, 2), 2);
        y.choose(5, 1);
        DUE.is("whole with", y.parted(2, 0), 1);
        DUE.is("whole with, strength", y.parted(2, 1), 4);
        DUE.is("K is n", y.parted(2, 2), -5);
        y.choose(1, 3);
        DUE.is("point with", y.parted(1, 0), 1);
        DUE.is("the empty set is even", y.parted(1, 1), 0);
        DUE.is("a point without", y.parted(1, 2), 0);
        y.choose(1, 31);
        DUE.is("all points without", y.parted(1, 2), 1);
        OrbitDesigns z = Due.of(8);
        z.way(4, 1);
        z.choose(4, (1 << z.orbitOf(139)) | (1 << z.orbitOf(127 & ~11)));
        DUE.is("a plane with 7", z.parted(7, 1), 2);
        DUE.is("its turned one without 7", z.parted(7, 2), 2);
    }
}
