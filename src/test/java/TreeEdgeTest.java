/** Terms III, IV and promises 13 to 24: each sentence that names a boundary, on both sides of it. */
public final class TreeEdgeTest {
    private static final int[] FAR = {Integer.MAX_VALUE, Integer.MIN_VALUE, 40, -40};
    private static final Check CHECK = new Check("TreeEdgeTest");

    /** Root m (2) waits: port 0 to d (4), port 1 to b (1), port 2 free, port 3 to a (0); c (3) is alone. */
    private static final String STAR = "bus wait 20 delay 0;node a ports 1;node b ports 2;node m ports 4 force;node c ports 3;node d ports 1;"
        + "cable m 3 a 0 long 1;cable b 1 m 1 long 1;cable m 0 d 0 long 1;";

    /** A ring a, b, c with d behind c; e is alone. */
    private static final String LOOP = "bus wait 0 delay 0;node a ports 2;node b ports 2;node c ports 3;node d ports 1;node e ports 2;"
        + "cable a 0 b 0 long 1;cable b 1 c 0 long 1;cable c 1 a 1 long 1;cable c 2 d 0 long 2;";

    public static void main(String[] args) {
        leastPortFirst();
        ownIdBehindAllChildren();
        oneNodeAlone();
        letterForEachPort();
        namedBounds();
        sizes();
        parentOfRootAndOthers();
        depthBounds();
        belowBounds();
        delayInsideAlone();
        waysBetweenBuses();
        longestOfOneAndOfTwo();
        longestByAnyPorts();
        leastGap();
        centreWithAndWithoutDelay();
        centreOfSeveral();
        packetBounds();
        noneInALoop();
        besideALoop();
        fullPortsSideBySide();
        noSuchNode();
        CHECK.close();
    }

    private static void ids(CableElection x, int... want) {
        for (int node = 0; node < want.length; node++) {
            CHECK.due("id(" + node + ")", x.id(node), want[node]);
        }
    }

    /** III: "PORT by PORT, the least first". */
    private static void leastPortFirst() {
        CableElection x = Check.netOf(STAR);
        CHECK.due("root(0)", x.root(0), 2);
        ids(x, 2, 1, 3, 0, 0);
        // d goes from port 0 to port 2, behind b: the order is by port, not by the text or by acts.
        x.pull(2, 0);
        ids(x, 1, 0, 2, 0, 0);
        x.plug(4, 0, 2, 2, 1);
        ids(x, 2, 0, 3, 0, 1);
    }

    /** III: "each takes its own ID (from 0 on, one more each) behind all its CHILDREN". */
    private static void ownIdBehindAllChildren() {
        // e (4) is root; below it b (1) with a (0) and c (2), and d (3).
        CableElection x = Check.netOf("bus wait 20 delay 0;node a ports 1;node b ports 3;node c ports 1;node d ports 1;node e ports 2 force;"
            + "cable b 0 c 0 long 1;cable b 1 e 0 long 1;cable b 2 a 0 long 1;cable e 1 d 0 long 1;");
        CHECK.due("root(0)", x.root(0), 4);
        ids(x, 1, 2, 0, 3, 4);
        for (int id = 0; id < 5; id++) {
            CHECK.due("id of the one named " + id, x.id(x.named(0, id)), id);
        }
    }

    /** A bus of one node, with each answer that it has. */
    private static void oneNodeAlone() {
        CableElection x = Check.netOf("bus wait 20 delay 9;node a ports 4;node b ports 3 force;");
        for (int node = 0; node < 2; node++) {
            CHECK.due("id", x.id(node), 0);
            CHECK.due("named 0", x.named(node, 0), node);
            CHECK.due("named 1", x.named(node, 1), -1);
            CHECK.due("size", x.size(node), 1);
            CHECK.due("parent", x.parent(node), -1);
            CHECK.due("depth", x.depth(node), 0);
            CHECK.due("below", x.below(node), 1);
            CHECK.due("way", x.way(node, node), 0);
            CHECK.due("hops", x.hops(node, node), 0);
            CHECK.due("longest", x.longest(node), 0);
            CHECK.due("gap", x.gap(node), 1);
            CHECK.due("centre", x.centre(node), node);
        }
    }

    /** III: "PACKET: a letter for each PORT: n no CABLE, p PARENT, c CHILD". */
    private static void letterForEachPort() {
        CableElection x = Check.netOf(STAR);
        int[][] want = {{1}, {0, 1}, {2, 2, 0, 2}, {0, 0, 0}, {1}};
        for (int node = 0; node < 5; node++) {
            for (int i = 0; i < want[node].length; i++) {
                CHECK.due("packet(" + node + ", " + i + ")", x.packet(node, i), want[node][i]);
            }
        }
    }

    private static String chain(int nodes, int delay, int... lengths) {
        StringBuilder text = new StringBuilder("bus wait 0 delay " + delay + ";");
        for (int i = 0; i < nodes; i++) {
            text.append("node ").append((char) ('a' + i)).append(" ports 2;");
        }
        for (int i = 0; i + 1 < nodes; i++) {
            text.append("cable ").append((char) ('a' + i)).append(" 1 ").append((char) ('b' + i)).append(" 0 long ")
                .append(lengths[i % lengths.length]).append(";");
        }
        return text.toString();
    }

    /** Promise 14: "NONE: there is none such": below 0, and from the bus's size on. */
    private static void namedBounds() {
        CableElection x = Check.netOf(STAR);
        for (int node : new int[] {0, 1, 2, 4}) {
            CHECK.due("named(" + node + ", 0)", x.named(node, 0), 4);
            CHECK.due("named(" + node + ", 3)", x.named(node, 3), 2);
            CHECK.due("named(" + node + ", 4)", x.named(node, 4), -1);
            CHECK.due("named(" + node + ", -1)", x.named(node, -1), -1);
        }
        CHECK.due("named(3, 0)", x.named(3, 0), 3);
        CHECK.due("named(3, 1), which another bus has", x.named(3, 1), -1);
        x = Check.netOf(chain(10, 0, 1));
        CHECK.due("named(0, 9)", x.named(0, 9), 5);
        CHECK.due("named(0, 10)", x.named(0, 10), -1);
        for (int far : FAR) {
            CHECK.due("named(0, " + far + ")", x.named(0, far), -1);
        }
        CHECK.due("named(10, 10), the node is asked first", x.named(10, 10), -2);
        CHECK.due("named(-1, -1), the node is asked first", x.named(-1, -1), -2);
        // Ten buses of one node each have ten names 0, and no other.
        CableElection alone = Check.netOf(TextTest.tenNodes());
        for (int node = 0; node < 10; node++) {
            CHECK.due("named(" + node + ", 0) of ten", alone.named(node, 0), node);
            for (int id = 1; id <= 12; id++) {
                CHECK.due("named(" + node + ", " + id + ") of ten", alone.named(node, id), -1);
            }
        }
        // Fewer nodes than before: the names of those that are gone are gone.
        x.pull(4, 1);
        CHECK.due("named(0, 4)", x.named(0, 4) >= 0 ? 1 : 0, 1);
        CHECK.due("named(0, 5)", x.named(0, 5), -1);
        CHECK.due("named(9, 4)", x.named(9, 4) >= 5 ? 1 : 0, 1);
        CHECK.due("named(9, 5)", x.named(9, 5), -1);
    }

    /** Promise 15: from 1 to 10. */
    private static void sizes() {
        CableElection x = Check.netOf(chain(10, 0, 1));
        CHECK.due("size(0)", x.size(0), 10);
        CHECK.due("size(9)", x.size(9), 10);
        x.pull(0, 1);
        CHECK.due("size(0)", x.size(0), 1);
        CHECK.due("size(9)", x.size(9), 9);
    }

    /** Promise 16: "NONE: it is ROOT". */
    private static void parentOfRootAndOthers() {
        CableElection x = Check.netOf(STAR);
        int[] want = {2, 2, -1, -1, 2};
        for (int node = 0; node < 5; node++) {
            CHECK.due("parent(" + node + ")", x.parent(node), want[node]);
        }
    }

    /** Promise 17: 0 for the root, one more for each cable. */
    private static void depthBounds() {
        CableElection x = Check.netOf(chain(10, 0, 1));
        CHECK.due("root(0)", x.root(0), 5);
        int[] want = {5, 4, 3, 2, 1, 0, 1, 2, 3, 4};
        for (int node = 0; node < 10; node++) {
            CHECK.due("depth(" + node + ")", x.depth(node), want[node]);
        }
        // a waits longer than the calls need to come to it, and is root of all.
        x = Check.netOf(chain(10, 0, 1).replace("wait 0", "wait 20"));
        CHECK.due("force(0, 1)", x.force(0, 1), 0);
        CHECK.due("depth(9), the deepest", x.depth(9), 9);
        CHECK.due("depth(0)", x.depth(0), 0);
        CHECK.due("below(0)", x.below(0), 10);
        CHECK.due("below(1)", x.below(1), 9);
        CHECK.due("below(9)", x.below(9), 1);
        CHECK.due("id(9)", x.id(9), 0);
        CHECK.due("id(0)", x.id(0), 9);
    }

    /** Promise 18: "it, too". */
    private static void belowBounds() {
        CableElection x = Check.netOf(STAR);
        int[] want = {1, 1, 4, 1, 1};
        for (int node = 0; node < 5; node++) {
            CHECK.due("below(" + node + ")", x.below(node), want[node]);
        }
    }

    /** IV: "D for each NODE inside (not its ends)". */
    private static void delayInsideAlone() {
        CableElection x = Check.netOf(chain(4, 9, 1, 2, 4));
        int[][] want = {{0, 1, 12, 25}, {1, 0, 2, 15}, {12, 2, 0, 4}, {25, 15, 4, 0}};
        for (int a = 0; a < 4; a++) {
            for (int b = 0; b < 4; b++) {
                CHECK.due("way(" + a + ", " + b + ")", x.way(a, b), want[a][b]);
                CHECK.due("hops(" + a + ", " + b + ")", x.hops(a, b), Math.abs(a - b));
            }
        }
        x = Check.netOf(chain(4, 0, 1, 2, 4));
        CHECK.due("way(0, 3) without delay", x.way(0, 3), 7);
    }

    /** Promises 19, 20: "NONE: they are not of one BUS; -2: there are none such". */
    private static void waysBetweenBuses() {
        CableElection x = Check.netOf(STAR);
        CHECK.due("way(0, 3)", x.way(0, 3), -1);
        CHECK.due("hops(3, 0)", x.hops(3, 0), -1);
        CHECK.due("way(3, 3)", x.way(3, 3), 0);
        CHECK.due("way(4, 0)", x.way(4, 0), 2);
        for (int node : new int[] {-1, 5, FAR[0], FAR[1], FAR[2], FAR[3]}) {
            CHECK.due("way(0, " + node + ")", x.way(0, node), -2);
            CHECK.due("way(" + node + ", 0)", x.way(node, 0), -2);
            CHECK.due("way(" + node + ", " + node + ")", x.way(node, node), -2);
            CHECK.due("hops(0, " + node + ")", x.hops(0, node), -2);
            CHECK.due("hops(" + node + ", 0)", x.hops(node, 0), -2);
            CHECK.due("hops(" + node + ", " + node + ")", x.hops(node, node), -2);
        }
    }

    /** IV: "of all ways of the BUS the most (0, with one NODE)": of its own bus alone. */
    private static void longestOfOneAndOfTwo() {
        CableElection x = Check.netOf("bus wait 0 delay 9;node a ports 2;node b ports 1;node c ports 2;node d ports 1;node e ports 1;"
            + "cable b 0 c 0 long 4;cable d 0 c 1 long 5;cable a 0 e 0 long 7;");
        int[] want = {7, 18, 18, 18, 7};
        for (int node = 0; node < 5; node++) {
            CHECK.due("longest(" + node + ")", x.longest(node), want[node]);
        }
        x.pull(0, 0);
        CHECK.due("longest(0)", x.longest(0), 0);
        CHECK.due("longest(4)", x.longest(4), 0);
        // The longest way need not have the root inside: b (1) is root, the long cables lie below c (2).
        x = Check.netOf("bus wait 20 delay 0;node a ports 1;node b ports 1 force;node c ports 3;node d ports 1;"
            + "cable b 0 c 0 long 1;cable c 1 a 0 long 9;cable c 2 d 0 long 8;");
        CHECK.due("root(0)", x.root(0), 1);
        CHECK.due("longest(1)", x.longest(1), 17);
    }

    /** IV: "of all ways": the longest and the centre do not hang on the order of ports, nor of nodes. */
    private static void longestByAnyPorts() {
        for (int order = 0; order < 27; order++) {
            int one = order % 3;
            int other = order / 3 % 3;
            int last = order / 9;
            if (one == other || other == last || one == last) {
                continue;
            }
            CableElection x = Check.netOf("bus wait 0 delay 2;node a ports 1;node b ports 1;node m ports 3;node c ports 1;"
                + "cable a 0 m " + one + " long 9;cable b 0 m " + other + " long 8;cable c 0 m " + last + " long 1;");
            for (int node = 0; node < 4; node++) {
                CHECK.due("longest(" + node + ")", x.longest(node), 9 + 2 + 8);
                CHECK.due("gap(" + node + ")", x.gap(node), 6);
                CHECK.due("centre(" + node + ")", x.centre(node), 2);
            }
        }
    }

    /** IV: "GAP: the least g so that 8 g is not below 2 LONGEST and 5". */
    private static void leastGap() {
        // With LONGEST 1, 5, 9, 13, 17 eight gaps are one above, with one more they would be one below.
        int[][] want = {{1, 1}, {2, 2}, {5, 2}, {6, 3}, {9, 3}};
        for (int[] pair : want) {
            CableElection x = Check.netOf(chain(2, 9, pair[0]));
            CHECK.due("longest(0)", x.longest(0), pair[0]);
            CHECK.due("gap(0) with " + pair[0], x.gap(0), pair[1]);
        }
        int[][] longer = {{0, 10, 4}, {3, 13, 4}, {4, 14, 5}, {7, 17, 5}, {8, 18, 6}};
        for (int[] three : longer) {
            CableElection x = Check.netOf(chain(3, three[0], 9, 1));
            CHECK.due("longest(2)", x.longest(2), three[1]);
            CHECK.due("gap(2) with " + three[1], x.gap(2), three[2]);
        }
        // The most that there is: 9 cables and 8 nodes inside, 9 each: 311 needs 39.
        CableElection x = Check.netOf(chain(10, 9, 9));
        CHECK.due("longest(0)", x.longest(0), 153);
        CHECK.due("gap(0)", x.gap(0), 39);
    }

    /** Promise 23: "from which the longest way to another one is shortest": by DELAY, not by cables. */
    private static void centreWithAndWithoutDelay() {
        // From b 9 and 3, from c 10 and 2; with 9 for each node inside: from b 9 and 21, from c 19 and 11.
        CHECK.due("centre(0)", Check.netOf(chain(5, 0, 9, 1, 1, 1)).centre(0), 1);
        CHECK.due("centre(4)", Check.netOf(chain(5, 9, 9, 1, 1, 1)).centre(4), 2);
        CableElection x = Check.netOf(chain(5, 0, 1, 1, 1, 9));
        CHECK.due("root(0)", x.root(0), 4);
        CHECK.due("centre(0), not the root", x.centre(0), 3);
    }

    /** Promise 23: "the least of several": of the bus's own. */
    private static void centreOfSeveral() {
        CHECK.due("centre of two", Check.netOf(chain(2, 3, 5)).centre(1), 0);
        CHECK.due("centre of four", Check.netOf(chain(4, 3, 5)).centre(3), 1);
        // c and b are the middle ones of d - c - b - e; a is alone.
        CableElection x = Check.netOf("bus wait 0 delay 1;node a ports 1;node b ports 2;node c ports 2;node d ports 1;node e ports 1;"
            + "cable d 0 c 0 long 2;cable c 1 b 0 long 3;cable b 1 e 0 long 2;");
        CHECK.due("centre(4)", x.centre(4), 1);
        CHECK.due("centre(0)", x.centre(0), 0);
    }

    /** Promise 24: "NONE: it has not so many PORTS; -2: there is no such NODE, i is below 0". */
    private static void packetBounds() {
        CableElection x = Check.netOf(STAR);
        int[] ports = {1, 2, 4, 3, 1};
        for (int node = 0; node < 5; node++) {
            CHECK.due("packet(" + node + ", -1)", x.packet(node, -1), -2);
            CHECK.due("packet(" + node + ", 0) is there", x.packet(node, 0) >= 0 ? 1 : 0, 1);
            CHECK.due("packet, the last, is there", x.packet(node, ports[node] - 1) >= 0 ? 1 : 0, 1);
            CHECK.due("packet, behind the last", x.packet(node, ports[node]), -1);
            CHECK.due("packet, far behind", x.packet(node, Integer.MAX_VALUE), -1);
            CHECK.due("packet, far ahead", x.packet(node, Integer.MIN_VALUE), -2);
        }
        for (int node : new int[] {-1, 5, FAR[0], FAR[1], FAR[2], FAR[3]}) {
            CHECK.due("packet(" + node + ", 0)", x.packet(node, 0), -2);
            CHECK.due("packet(" + node + ", -1)", x.packet(node, -1), -2);
            CHECK.due("packet(" + node + ", 4)", x.packet(node, 4), -2);
        }
    }

    /** Promises 13 to 24: "NONE: a LOOP", for what hangs on the ring, too. */
    private static void noneInALoop() {
        noneIn(Check.netOf(LOOP));
        // "or more": two cables side by side within the ring.
        noneIn(Check.netOf(LOOP.replace("node b ports 2", "node b ports 3").replace("node a ports 2", "node a ports 3")
            + "cable a 2 b 2 long 1;"));
    }

    private static void noneIn(CableElection x) {
        for (int node = 0; node < 4; node++) {
            CHECK.due("id", x.id(node), -1);
            CHECK.due("named", x.named(node, 0), -1);
            CHECK.due("size", x.size(node), 4);
            CHECK.due("parent", x.parent(node), -1);
            CHECK.due("depth", x.depth(node), -1);
            CHECK.due("below", x.below(node), -1);
            CHECK.due("longest", x.longest(node), -1);
            CHECK.due("gap", x.gap(node), -1);
            CHECK.due("centre", x.centre(node), -1);
            for (int other = 0; other < 5; other++) {
                CHECK.due("way", x.way(node, other), -1);
                CHECK.due("hops", x.hops(other, node), -1);
            }
            CHECK.due("way to none", x.way(node, 5), -2);
            CHECK.due("hops from none", x.hops(-1, node), -2);
            CHECK.due("packet(" + node + ", -1)", x.packet(node, -1), -2);
            for (int i = 0; i < 5; i++) {
                CHECK.due("packet(" + node + ", " + i + ")", x.packet(node, i), -1);
            }
        }
    }

    /** A loop is the matter of its own bus. */
    private static void besideALoop() {
        CableElection x = Check.netOf(LOOP);
        CHECK.due("id(4)", x.id(4), 0);
        CHECK.due("named(4, 0)", x.named(4, 0), 4);
        CHECK.due("depth(4)", x.depth(4), 0);
        CHECK.due("below(4)", x.below(4), 1);
        CHECK.due("way(4, 4)", x.way(4, 4), 0);
        CHECK.due("hops(4, 4)", x.hops(4, 4), 0);
        CHECK.due("longest(4)", x.longest(4), 0);
        CHECK.due("gap(4)", x.gap(4), 1);
        CHECK.due("centre(4)", x.centre(4), 4);
        CHECK.due("packet(4, 1)", x.packet(4, 1), 0);
        CHECK.due("packet(4, 2)", x.packet(4, 2), -1);
    }

    /**
     * Two buses, a - c and b - d, of nodes that have all four ports: the first port of one node
     * and the last one of the node ahead of it have nothing to do with one another.
     */
    private static void fullPortsSideBySide() {
        for (int one = 1; one <= 9; one += 4) {
            for (int other = 1; other <= 9; other += 4) {
                CableElection x = Check.netOf("bus wait 0 delay 1;node a ports 4 coins 1;node b ports 4 coins 1;node c ports 4;node d ports 4;"
                    + "cable a 3 c 3 long " + one + ";cable b 0 d 0 long " + other + ";");
                CHECK.due("count(7)", x.count(7), 2);
                CHECK.due("count(8)", x.count(8), 0);
                CHECK.due("bridges()", x.bridges(), 2);
                for (int node = 0; node < 4; node++) {
                    int length = node % 2 == 0 ? one : other;
                    int port = node % 2 == 0 ? 3 : 0;
                    CHECK.due("root", x.root(node), node % 2);
                    CHECK.due("settled", x.settled(node), 3 * length + 6);
                    CHECK.due("id", x.id(node), node < 2 ? 1 : 0);
                    CHECK.due("named 0", x.named(node, 0), node % 2 + 2);
                    CHECK.due("named 2", x.named(node, 2), -1);
                    CHECK.due("size", x.size(node), 2);
                    CHECK.due("below", x.below(node), node < 2 ? 2 : 1);
                    CHECK.due("way", x.way(node, (node + 2) % 4), length);
                    CHECK.due("way to the other bus", x.way(node, (node + 1) % 4), -1);
                    CHECK.due("longest", x.longest(node), length);
                    CHECK.due("packet", x.packet(node, port), node < 2 ? 2 : 1);
                    CHECK.due("packet", x.packet(node, 3 - port), 0);
                    CHECK.due("cutting", x.cutting(node, port), 1);
                    CHECK.due("wins", x.wins(1 << node), node);
                    CHECK.due("grant", x.grant(1 << node), node < 2 ? 0 : 2 * length);
                    CHECK.due("rootBy", x.rootBy(node), node % 2);
                }
                // What was asked in the other bus before is nothing to this one.
                CHECK.due("grant(8)", x.grant(0b1000), 2 * other);
                CHECK.due("grant(4) behind it", x.grant(0b0100), 2 * one);
                CHECK.due("grant(8) behind that", x.grant(0b1000), 2 * other);
            }
        }
    }

    /** Promises 13 to 24: "-2", with a net of some nodes, of none, and without one. */
    private static void noSuchNode() {
        askAbsent(Check.netOf(STAR), 5);
        askAbsent(Check.netOf(LOOP), 5);
        askAbsent(Check.netOf(chain(10, 0, 1)), 10);
        askAbsent(Check.netOf("bus wait 0 delay 0;"), 0);
        askAbsent(new CableElection(), 0);
    }

    private static void askAbsent(CableElection x, int nodes) {
        for (int i = 0; i < FAR.length + 2; i++) {
            int node = i == 0 ? -1 : i == 1 ? nodes : FAR[i - 2];
            CHECK.due("id", x.id(node), -2);
            CHECK.due("named", x.named(node, 0), -2);
            CHECK.due("size", x.size(node), -2);
            CHECK.due("parent", x.parent(node), -2);
            CHECK.due("depth", x.depth(node), -2);
            CHECK.due("below", x.below(node), -2);
            CHECK.due("way", x.way(node, 0), -2);
            CHECK.due("hops", x.hops(0, node), -2);
            CHECK.due("longest", x.longest(node), -2);
            CHECK.due("gap", x.gap(node), -2);
            CHECK.due("centre", x.centre(node), -2);
            CHECK.due("packet", x.packet(node, 0), -2);
        }
    }
}
