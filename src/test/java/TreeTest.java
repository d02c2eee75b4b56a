/** Promises 13 to 24: ids, the tree, ways and packets. */
public final class TreeTest {
    private static final Check CHECK = new Check("TreeTest");

    /**
     * Root c (2): port 0 to e (4), port 1 free, port 2 to a (0), port 3 to d (3); a: port 1 to b (1).
     * All leaves call at once; a hears b at 2 and calls c at 2; c hears e at 1, d at 9, a at 7.
     * c calls nobody till 7, at which d alone is left: it calls d, d called it; c has the 1.
     */
    private static final String TREE = "bus wait 0 delay 2;node a ports 2;node b ports 1;node c ports 4 coins 1;node d ports 1;node e ports 2;"
        + "node f ports 1;cable c 0 e 1 long 1;cable a 0 c 2 long 5;cable a 1 b 0 long 2;cable c 3 d 0 long 9;";

    private static final String LOOP = "bus wait 0 delay 0;node a ports 2;node b ports 2;node c ports 3;node d ports 1;"
        + "cable a 0 b 0 long 1;cable b 1 c 0 long 1;cable c 1 a 1 long 1;cable c 2 d 0 long 2;";

    public static void main(String[] args) {
        idsAndTree();
        ways();
        gaps();
        centres();
        packets();
        wrongNodes();
        inALoop();
        CHECK.close();
    }

    private static void row(String call, int[] got, int... want) {
        for (int i = 0; i < want.length; i++) {
            CHECK.due(call + " of " + i, got[i], want[i]);
        }
    }

    private static void idsAndTree() {
        CableElection x = Check.netOf(TREE);
        int[] ids = new int[6];
        int[] sizes = new int[6];
        int[] parents = new int[6];
        int[] depths = new int[6];
        int[] belows = new int[6];
        int[] named = new int[6];
        for (int node = 0; node < 6; node++) {
            ids[node] = x.id(node);
            sizes[node] = x.size(node);
            parents[node] = x.parent(node);
            depths[node] = x.depth(node);
            belows[node] = x.below(node);
            named[node] = x.named(3, node);
        }
        CHECK.due("root(0)", x.root(0), 2);
        CHECK.due("settled(0)", x.settled(0), 7 + 9 + 24);
        row("id", ids, 2, 1, 4, 3, 0, 0);
        row("size", sizes, 5, 5, 5, 5, 5, 1);
        row("parent", parents, 2, 0, -1, 2, 2, -1);
        row("depth", depths, 1, 2, 0, 1, 1, 0);
        row("below", belows, 2, 1, 5, 1, 1, 1);
        row("named in the bus of d", named, 4, 1, 0, 3, 2, -1);
        CHECK.due("named(5, 0)", x.named(5, 0), 5);
        CHECK.due("named(5, 1)", x.named(5, 1), -1);
        CHECK.due("named(0, -1)", x.named(0, -1), -1);
        CHECK.due("named(0, max)", x.named(0, Integer.MAX_VALUE), -1);
    }

    private static void ways() {
        CableElection x = Check.netOf(TREE);
        CHECK.due("way(1, 4)", x.way(1, 4), 2 + 5 + 1 + 2 * 2);
        CHECK.due("way(4, 1)", x.way(4, 1), 12);
        CHECK.due("way(1, 0)", x.way(1, 0), 2);
        CHECK.due("way(1, 1)", x.way(1, 1), 0);
        CHECK.due("way(5, 5)", x.way(5, 5), 0);
        CHECK.due("way(1, 5)", x.way(1, 5), -1);
        CHECK.due("way(1, 6)", x.way(1, 6), -2);
        CHECK.due("way(6, 1)", x.way(6, 1), -2);
        CHECK.due("way(-1, 1)", x.way(-1, 1), -2);
        CHECK.due("hops(1, 4)", x.hops(1, 4), 3);
        CHECK.due("hops(3, 4)", x.hops(3, 4), 2);
        CHECK.due("hops(2, 2)", x.hops(2, 2), 0);
        CHECK.due("hops(5, 0)", x.hops(5, 0), -1);
        CHECK.due("hops(0, -1)", x.hops(0, -1), -2);
        CHECK.due("longest(0)", x.longest(0), 2 + 5 + 9 + 2 * 2);
        CHECK.due("longest(5)", x.longest(5), 0);
        CHECK.due("gap(0)", x.gap(0), 6);
        CHECK.due("gap(5)", x.gap(5), 1);
    }

    private static String pair(int length) {
        return "bus wait 0 delay 9;node a ports 1;node b ports 1;cable a 0 b 0 long " + length + ";";
    }

    private static void gaps() {
        int[] want = {0, 1, 2, 2, 2, 2, 3, 3, 3, 3};
        for (int length = 1; length <= 9; length++) {
            CHECK.due("gap with longest " + length, Check.netOf(pair(length)).gap(0), want[length]);
        }
        CableElection x = new CableElection();
        StringBuilder chain = new StringBuilder("bus wait 20 delay 9;");
        for (int i = 0; i < 10; i++) {
            chain.append("node ").append((char) ('a' + i)).append(" ports 2 force;");
        }
        for (int i = 0; i < 9; i++) {
            chain.append("cable ").append((char) ('a' + i)).append(" 1 ").append((char) ('b' + i)).append(" 0 long 9;");
        }
        Check.tell(x, chain.toString());
        CHECK.due("net()", x.net(), 20);
        CHECK.due("longest of a chain of ten", x.longest(4), 9 * 9 + 8 * 9);
        CHECK.due("gap of a chain of ten", x.gap(4), (2 * 153 + 5 + 7) / 8);
        // From each side: 20 at once, then 9 and 20 for each; the middle ones cross.
        CHECK.due("called(4)", x.called(4), 20 + 4 * 29);
        CHECK.due("called(5)", x.called(5), 20 + 4 * 29);
        CHECK.due("settled(0)", x.settled(0), 20 + 4 * 29 + 9 + 10 * 20);
        CHECK.due("root(0)", x.root(0), 5);
        CHECK.due("depth(0)", x.depth(0), 5);
        CHECK.due("below(5)", x.below(5), 10);
        CHECK.due("centre(0)", x.centre(0), 4);
    }

    private static void centres() {
        // From c: 9 to d, 9 to b (5, 2 and 2); from a: 2 and 16.
        CHECK.due("centre(0)", Check.netOf(TREE).centre(0), 2);
        CHECK.due("centre(5)", Check.netOf(TREE).centre(5), 5);
        CHECK.due("centre of two, the least", Check.netOf(pair(3)).centre(1), 0);
        // b - c - a, 1 and 5 long: c has 5, the others have more.
        CableElection x = Check.netOf("bus wait 0 delay 1;node a ports 1;node b ports 1;node c ports 2;cable b 0 c 0 long 1;cable c 1 a 0 long 5;");
        CHECK.due("centre(0)", x.centre(0), 2);
    }

    private static void packets() {
        CableElection x = Check.netOf(TREE);
        int[][] want = {{1, 2}, {1}, {2, 0, 2, 2}, {1}, {0, 1}, {0}};
        for (int node = 0; node < 6; node++) {
            for (int i = 0; i < want[node].length; i++) {
                CHECK.due("packet(" + node + ", " + i + ")", x.packet(node, i), want[node][i]);
            }
            CHECK.due("packet behind its last", x.packet(node, want[node].length), -1);
            CHECK.due("packet ahead of its first", x.packet(node, -1), -2);
            CHECK.due("packet far behind", x.packet(node, Integer.MAX_VALUE), -1);
        }
        CHECK.due("packet(6, 0)", x.packet(6, 0), -2);
        CHECK.due("packet(-1, 0)", x.packet(-1, 0), -2);
    }

    private static void wrongNodes() {
        CableElection x = Check.netOf(TREE);
        for (int node : new int[] {-1, 6, Integer.MAX_VALUE, Integer.MIN_VALUE}) {
            CHECK.due("id", x.id(node), -2);
            CHECK.due("named", x.named(node, 0), -2);
            CHECK.due("size", x.size(node), -2);
            CHECK.due("parent", x.parent(node), -2);
            CHECK.due("depth", x.depth(node), -2);
            CHECK.due("below", x.below(node), -2);
            CHECK.due("longest", x.longest(node), -2);
            CHECK.due("gap", x.gap(node), -2);
            CHECK.due("centre", x.centre(node), -2);
        }
    }

    private static void inALoop() {
        CableElection x = Check.netOf(LOOP);
        for (int node = 0; node < 4; node++) {
            CHECK.due("id", x.id(node), -1);
            CHECK.due("named", x.named(node, 0), -1);
            CHECK.due("size", x.size(node), 4);
            CHECK.due("parent", x.parent(node), -1);
            CHECK.due("depth", x.depth(node), -1);
            CHECK.due("below", x.below(node), -1);
            CHECK.due("way", x.way(node, node), -1);
            CHECK.due("hops", x.hops(node, 3), -1);
            CHECK.due("longest", x.longest(node), -1);
            CHECK.due("gap", x.gap(node), -1);
            CHECK.due("centre", x.centre(node), -1);
            CHECK.due("packet", x.packet(node, 0), -1);
            CHECK.due("packet", x.packet(node, 3), -1);
            CHECK.due("packet", x.packet(node, -1), -2);
        }
    }
}
