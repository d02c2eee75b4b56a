/** Promises 32 to 40: each sentence that names a boundary, on both sides of it. */
public final class ChangeEdgeTest {
    private static final int[] FAR = {Integer.MAX_VALUE, Integer.MIN_VALUE, 40, -40};
    private static final Check CHECK = new Check("ChangeEdgeTest");

    /** a - b - c, 3 and 1 long, each with a port to spare; d is alone. */
    private static final String FOUR = "bus wait 9 delay 2;node a ports 2;node b ports 3;node c ports 2;node d ports 1;"
        + "cable a 0 b 0 long 3;cable b 1 c 0 long 1;";

    public static void main(String[] args) {
        rootByWait();
        rootByWithOthersForced();
        rootByWithoutAnswer();
        rootByIsNoAct();
        cuttingBothSides();
        cuttingInARing();
        cuttingWithoutAnswer();
        bridgesOfTreesAndRings();
        bridgesWithoutNet();
        spareByCableCount();
        spareIsLeastGap();
        spareOfSeveral();
        spareOfItsBusAlone();
        spareByLesserNode();
        spareWithoutAnswer();
        plugAnswersBuses();
        plugNoneSuch();
        plugPortHasOne();
        plugFillsAllPorts();
        pullAnswersBuses();
        pullNoneSuch();
        forceAnswersRoot();
        forceInALoop();
        forceNoneSuch();
        twentyActs();
        refusedActsDoNotCount();
        twentyActsOfEachNet();
        noneSuchAheadOfRefused();
        refusedActsChangeNothing();
        undoTakesBackTheLatest();
        undoIsAsIfNotDone();
        undoWithoutAny();
        anewTakesBackAll();
        anewWithoutAny();
        actsWithoutANet();
        CHECK.close();
    }

    private static String two(int wait, String one, String other, int length) {
        return "bus wait " + wait + " delay 0;node a ports 1" + one + ";node b ports 1" + other + ";cable a 0 b 0 long " + length + ";";
    }

    /** 32: "ROOT of its BUS, were a NODE FORCED": that need not be itself. */
    private static void rootByWait() {
        for (int wait = 0; wait <= 6; wait++) {
            // b calls at 0, that comes at 5: a, were it forced, calls ahead of it if it waits less, and loses by its coins.
            CableElection x = Check.netOf(two(wait, "", " coins 1", 5));
            CHECK.due("root(0)", x.root(0), 1);
            CHECK.due("rootBy(0), wait " + wait, x.rootBy(0), wait < 5 ? 1 : 0);
            CHECK.due("rootBy(1), wait " + wait, x.rootBy(1), 1);
        }
        CableElection x = Check.netOf(FOUR);
        CHECK.due("rootBy(3), alone", x.rootBy(3), 3);
    }

    /** 32: "(also if it is)"; those that are forced stay so. */
    private static void rootByWithOthersForced() {
        CableElection x = Check.netOf(two(20, " force", "", 5));
        CHECK.due("rootBy(0), forced already", x.rootBy(0), 0);
        // Both would be: they wait alike, and the greater one is root behind ten rounds.
        CHECK.due("rootBy(1)", x.rootBy(1), 1);
        x = Check.netOf(two(20, " force coins 1", "", 5));
        CHECK.due("rootBy(1), by coins", x.rootBy(1), 0);
        CHECK.due("force(0, 0)", x.force(0, 0), 0);
        CHECK.due("rootBy(1), the other one is not any more", x.rootBy(1), 1);
    }

    /** 32: "NONE: a LOOP; -2". */
    private static void rootByWithoutAnswer() {
        CableElection x = Check.netOf(FOUR);
        x.plug(0, 1, 2, 1, 1);
        for (int node = 0; node < 3; node++) {
            CHECK.due("rootBy(" + node + ") in a loop", x.rootBy(node), -1);
        }
        CHECK.due("rootBy(3) beside a loop", x.rootBy(3), 3);
        x.plug(3, 0, 1, 2, 1);
        CHECK.due("rootBy(3) of a tail", x.rootBy(3), -1);
        for (int node : absent(4)) {
            CHECK.due("rootBy(" + node + ")", x.rootBy(node), -2);
        }
        CHECK.due("rootBy(0) without a net", new CableElection().rootBy(0), -2);
    }

    /** 32: "were": no node is forced by the question. */
    private static void rootByIsNoAct() {
        CHECK.nothingHappens("rootBy, cutting, bridges and spare", ChangeEdgeTest::someActs, x -> {
            for (int node = -1; node < 5; node++) {
                x.rootBy(node);
                x.cutting(node, 0);
                x.cutting(node, 1);
                x.spare(node);
            }
            x.bridges();
        });
    }

    private static int[] absent(int nodes) {
        return new int[] {-1, nodes, FAR[0], FAR[1], FAR[2], FAR[3]};
    }

    /** 33: "How many NODES the BUS of a NODE would have": seen from each end. */
    private static void cuttingBothSides() {
        CableElection x = Check.netOf("bus wait 0 delay 0;node a ports 2;node b ports 2;node c ports 2;node d ports 2;node e ports 1;"
            + "cable a 1 b 0 long 1;cable b 1 c 0 long 1;cable c 1 d 0 long 1;");
        int[][] want = {{-2, 1}, {3, 2}, {2, 3}, {1, -2}};
        for (int node = 0; node < 4; node++) {
            for (int port = 0; port < 2; port++) {
                CHECK.due("cutting(" + node + ", " + port + ")", x.cutting(node, port), want[node][port]);
            }
        }
    }

    /** 33: in a loop, too; of two cables side by side the other one is still there. */
    private static void cuttingInARing() {
        CableElection x = Check.netOf(FOUR);
        x.plug(0, 1, 2, 1, 1);
        x.plug(3, 0, 1, 2, 1);
        CHECK.due("cutting(0, 0), of the ring", x.cutting(0, 0), 4);
        CHECK.due("cutting(2, 1), of the ring", x.cutting(2, 1), 4);
        CHECK.due("cutting(3, 0), of the tail", x.cutting(3, 0), 1);
        CHECK.due("cutting(1, 2), of the tail", x.cutting(1, 2), 3);
        x = Check.netOf("bus wait 0 delay 0;node a ports 2;node b ports 2;cable a 0 b 1 long 1;cable a 1 b 0 long 1;");
        CHECK.due("cutting(0, 0), side by side", x.cutting(0, 0), 2);
        CHECK.due("cutting(1, 0), side by side", x.cutting(1, 0), 2);
        x.pull(0, 0);
        CHECK.due("cutting(0, 1), the last", x.cutting(0, 1), 1);
    }

    /** 33: "-2: there are none such, no CABLE". */
    private static void cuttingWithoutAnswer() {
        CableElection x = Check.netOf(FOUR);
        CHECK.due("cutting(0, 0)", x.cutting(0, 0), 1);
        CHECK.due("cutting(0, 1), no cable", x.cutting(0, 1), -2);
        CHECK.due("cutting(0, 2), no port", x.cutting(0, 2), -2);
        CHECK.due("cutting(0, -1)", x.cutting(0, -1), -2);
        CHECK.due("cutting(1, 1)", x.cutting(1, 1), 2);
        CHECK.due("cutting(1, 2), no cable", x.cutting(1, 2), -2);
        CHECK.due("cutting(1, 3), no port", x.cutting(1, 3), -2);
        // Were ports numbered through, this one would be the next node's port 0.
        CHECK.due("cutting(0, 4)", x.cutting(0, 4), -2);
        CHECK.due("cutting(2, -4)", x.cutting(2, -4), -2);
        for (int node : absent(4)) {
            CHECK.due("cutting(" + node + ", 0)", x.cutting(node, 0), -2);
            CHECK.due("cutting(0, " + node + ")", x.cutting(0, node), -2);
        }
        x.pull(0, 0);
        CHECK.due("cutting(0, 0), pulled", x.cutting(0, 0), -2);
        CHECK.due("cutting(1, 0), pulled", x.cutting(1, 0), -2);
        CHECK.due("cutting(0, 0) without a net", new CableElection().cutting(0, 0), -2);
    }

    /** 34: "CABLES without each of which there would be more BUSES": over all buses. */
    private static void bridgesOfTreesAndRings() {
        CableElection x = Check.netOf(FOUR);
        CHECK.due("bridges() of a tree", x.bridges(), 2);
        x.plug(3, 0, 1, 2, 1);
        CHECK.due("bridges() with one more", x.bridges(), 3);
        x.plug(0, 1, 2, 1, 1);
        CHECK.due("bridges() of a ring with a tail", x.bridges(), 1);
        x.pull(3, 0);
        CHECK.due("bridges() of a ring", x.bridges(), 0);
        x.pull(0, 0);
        x.pull(1, 1);
        CHECK.due("bridges() of one cable", x.bridges(), 1);
        x.plug(0, 0, 2, 0, 1);
        CHECK.due("bridges() of two side by side", x.bridges(), 0);
        // Two rings with one cable between, and a tree of two beside them.
        x = Check.netOf("bus wait 0 delay 0;node a ports 3;node b ports 2;node c ports 3;node d ports 2;node e ports 1;node f ports 1;"
            + "cable a 0 b 0 long 1;cable a 1 b 1 long 1;cable c 0 d 0 long 1;cable c 1 d 1 long 1;cable a 2 c 2 long 1;cable e 0 f 0 long 1;");
        CHECK.due("bridges() of two rings and a tree", x.bridges(), 2);
    }

    /** 34: "-2: there is no NET". */
    private static void bridgesWithoutNet() {
        CableElection x = new CableElection();
        CHECK.due("bridges()", x.bridges(), -2);
        Check.tell(x, "bus wait 0 delay 0;");
        x.net();
        CHECK.due("bridges() without nodes", x.bridges(), 0);
        Check.tell(x, "bus wait 0 delay 0;node a ports 1;node b ports 1;");
        x.net();
        CHECK.due("bridges() without cables", x.bridges(), 0);
        x.net();
        CHECK.due("bridges(), the net is gone", x.bridges(), -2);
    }

    /** 35: "(both ends still in one BUS; a LOOP has none now: any is less)". */
    private static void spareByCableCount() {
        CableElection x = Check.netOf("bus wait 0 delay 0;node a ports 3;node b ports 3;");
        CHECK.due("spare(0), no cable", x.spare(0), -1);
        x.plug(0, 0, 1, 0, 1);
        CHECK.due("spare(0), one: its ends would be of two", x.spare(0), -1);
        x.plug(0, 1, 1, 1, 1);
        CHECK.due("spare(0), two", x.spare(0), 0);
        CHECK.due("spare(1), two", x.spare(1), 0);
        x.plug(0, 2, 1, 2, 1);
        CHECK.due("spare(0), three: a loop stays, without a gap", x.spare(0), -1);
        // Even the greatest gap is less than none: ten nodes in a ring, all 9 long.
        StringBuilder ring = new StringBuilder("bus wait 0 delay 9;");
        for (int i = 0; i < 10; i++) {
            ring.append("node ").append((char) ('a' + i)).append(" ports 2;");
        }
        for (int i = 0; i < 10; i++) {
            ring.append("cable ").append((char) ('a' + i)).append(" 1 ").append((char) ('a' + (i + 1) % 10)).append(" 0 long 9;");
        }
        x = Check.netOf(ring.toString());
        CHECK.due("spare(5)", x.spare(5), 0);
        CHECK.due("pull(0, 0)", x.pull(0, 0), 1);
        CHECK.due("gap(0)", x.gap(0), 39);
        CHECK.due("spare(5), none any more", x.spare(5), -1);
    }

    /** A ring a, b, c by ports 0 and 1; the cable from a to b is the first, from a to c the second, from b to c the third. */
    private static CableElection ring(int delay, int ab, int ac, int bc) {
        return Check.netOf("bus wait 0 delay " + delay + ";node a ports 3;node b ports 3;node c ports 3;node d ports 1;"
            + "cable a 0 b 0 long " + ab + ";cable a 1 c 0 long " + ac + ";cable b 1 c 1 long " + bc + ";");
    }

    /** 35: "without which GAP of the BUS of a NODE would be least". */
    private static void spareIsLeastGap() {
        for (int node = 0; node < 3; node++) {
            CHECK.due("spare, a - b is long", ring(0, 9, 1, 1).spare(node), 0);
            CHECK.due("spare, a - c is long", ring(0, 1, 9, 1).spare(node), 1);
            CHECK.due("spare, b - c is long", ring(0, 1, 1, 9).spare(node), 11);
        }
        // A tail is none to spare, as long as it is; it counts in the ways.
        CableElection x = ring(0, 4, 4, 4);
        CHECK.due("spare(0)", x.spare(0), 0);
        x.plug(3, 0, 0, 2, 9);
        // Without b - c the longest is 13: gap 4; without a - b or a - c it is 17: gap 5.
        CHECK.due("spare(0), with a tail", x.spare(0), 11);
        CHECK.due("spare(3), from the tail", x.spare(3), 11);
    }

    /** 35: "the first of several": those whose GAPS are alike, whatever LONGEST is. */
    private static void spareOfSeveral() {
        // Without a - b 5 is longest, without a - c 4, without b - c 3: gap 2 each.
        CHECK.due("spare(0), three alike", ring(0, 1, 2, 3).spare(0), 0);
        // 6, 5 and 5: gaps 3, 2 and 2.
        CHECK.due("spare(0), the last two alike", ring(0, 2, 3, 3).spare(0), 1);
        // 5, 6 and 5: gaps 2, 3 and 2.
        CHECK.due("spare(0), the first and the last alike", ring(0, 3, 2, 3).spare(0), 0);
        CHECK.due("spare(0), all alike", ring(9, 9, 9, 9).spare(0), 0);
    }

    /** 35: "of the BUS of a NODE". */
    private static void spareOfItsBusAlone() {
        CableElection x = Check.netOf("bus wait 0 delay 0;node a ports 2;node b ports 2;node c ports 2;node d ports 2;node e ports 1;node f ports 1;"
            + "cable a 0 b 0 long 1;cable a 1 b 1 long 1;cable c 0 d 0 long 2;cable c 1 d 1 long 9;cable e 0 f 0 long 1;");
        int[] want = {0, 0, 21, 21, -1, -1};
        for (int node = 0; node < 6; node++) {
            CHECK.due("spare(" + node + ")", x.spare(node), want[node]);
        }
    }

    /** 35: "(by the lesser NODE and its PORT: 10 times the one and the other)". */
    private static void spareByLesserNode() {
        StringBuilder text = new StringBuilder("bus wait 0 delay 0;");
        for (char name = 'a'; name <= 'j'; name++) {
            text.append("node ").append(name).append(" ports 4;");
        }
        CableElection x = Check.netOf(text + "cable j 0 i 3 long 9;cable j 2 i 1 long 1;");
        CHECK.due("spare(9), told from the greater", x.spare(9), 83);
        x = Check.netOf(text + "cable i 3 j 0 long 9;cable i 1 j 2 long 1;");
        CHECK.due("spare(9), told from the lesser", x.spare(9), 83);
        x = Check.netOf(text + "cable j 0 i 3 long 1;cable j 2 i 1 long 1;");
        CHECK.due("spare(9), alike", x.spare(9), 81);
        x = Check.netOf(text + "cable a 2 j 3 long 9;cable j 2 a 0 long 1;");
        CHECK.due("spare(9)", x.spare(9), 2);
    }

    /** 35: "NONE: none; -2: there is no such NODE." */
    private static void spareWithoutAnswer() {
        CableElection x = Check.netOf(FOUR);
        for (int node = 0; node < 4; node++) {
            CHECK.due("spare(" + node + ") of a tree", x.spare(node), -1);
        }
        for (int node : absent(4)) {
            CHECK.due("spare(" + node + ")", x.spare(node), -2);
        }
        CHECK.due("spare(0) without a net", new CableElection().spare(0), -2);
    }

    /** 36: "a CABLE more: how many BUSES there are". */
    private static void plugAnswersBuses() {
        CableElection x = Check.netOf(FOUR);
        CHECK.due("plug within a bus", x.plug(0, 1, 2, 1, 1), 2);
        CHECK.due("plug between two", x.plug(3, 0, 1, 2, 9), 1);
        CHECK.due("port(3, 0, 1)", x.port(3, 0, 1), 1);
        CHECK.due("port(3, 0, 2)", x.port(3, 0, 2), 2);
        CHECK.due("port(1, 2, 1)", x.port(1, 2, 1), 3);
        CHECK.due("port(1, 2, 2)", x.port(1, 2, 2), 0);
        CHECK.due("port(1, 2, 3)", x.port(1, 2, 3), 9);
        CHECK.due("count(1)", x.count(1), 4);
        CHECK.due("count(4)", x.count(4), 2);
        // Each length is taken as it is.
        for (int length = 1; length <= 9; length++) {
            CableElection y = Check.netOf(FOUR);
            CHECK.due("plug long " + length, y.plug(3, 0, 0, 1, length), 1);
            CHECK.due("port(0, 1, 3)", y.port(0, 1, 3), length);
            CHECK.due("port(3, 0, 3)", y.port(3, 0, 3), length);
        }
    }

    /** 36: "-2: there are none such (long 1 .. 9; both at one NODE)". */
    private static void plugNoneSuch() {
        CableElection x = Check.netOf(FOUR);
        for (int node : absent(4)) {
            CHECK.due("plug from node " + node, x.plug(node, 0, 0, 1, 1), -2);
            CHECK.due("plug to node " + node, x.plug(0, 1, node, 0, 1), -2);
            CHECK.due("plug from port " + node, x.plug(0, node, 3, 0, 1), -2);
            CHECK.due("plug to port " + node, x.plug(3, 0, 0, node, 1), -2);
            CHECK.due("plug at one node that is none", x.plug(node, 0, node, 1, 1), -2);
        }
        CHECK.due("plug from the port behind the last", x.plug(0, 2, 3, 0, 1), -2);
        CHECK.due("plug to the port behind the last", x.plug(0, 1, 3, 1, 1), -2);
        for (int length : new int[] {0, 10, -1, 11, Integer.MAX_VALUE, Integer.MIN_VALUE}) {
            CHECK.due("plug long " + length, x.plug(0, 1, 3, 0, length), -2);
        }
        CHECK.due("plug at one node", x.plug(1, 2, 1, 2, 1), -2);
        CHECK.due("plug at one node, unlike ports", x.plug(0, 1, 0, 0, 1), -2);
        CHECK.due("count(4), none of them was an act", x.count(4), 0);
        CHECK.due("plug", x.plug(0, 1, 3, 0, 9), 1);
    }

    /** 36: "-5: a PORT has one". */
    private static void plugPortHasOne() {
        CableElection x = Check.netOf(FOUR);
        CHECK.due("plug from one that has", x.plug(0, 0, 3, 0, 1), -5);
        CHECK.due("plug to one that has", x.plug(3, 0, 0, 0, 1), -5);
        CHECK.due("plug between two that have", x.plug(0, 0, 2, 0, 1), -5);
        CHECK.due("plug of a cable that is there", x.plug(0, 0, 1, 0, 3), -5);
        CHECK.due("pull(0, 0)", x.pull(0, 0), 3);
        CHECK.due("plug from one that has none any more", x.plug(0, 0, 3, 0, 1), 2);
        CHECK.due("plug to one that has one now", x.plug(1, 0, 3, 0, 1), -5);
    }

    /** 36 names no bound of cables: fifteen is one of the text, and all forty ports may have one. */
    private static void plugFillsAllPorts() {
        StringBuilder text = new StringBuilder("bus wait 0 delay 0;");
        for (char name = 'a'; name <= 'j'; name++) {
            text.append("node ").append(name).append(" ports 4;");
        }
        for (int i = 0; i < 15; i++) {
            int turn = i < 10 ? 0 : 2;
            text.append("cable ").append((char) ('a' + i % 10)).append(' ').append(turn).append(' ')
                .append((char) ('a' + (i + 1) % 10)).append(' ').append(turn + 1).append(" long 1;");
        }
        CableElection x = Check.netOf(text.toString());
        for (int i = 5; i < 10; i++) {
            CHECK.due("plug of a sixteenth and more", x.plug(i, 2, (i + 1) % 10, 3, 1), 1);
            CHECK.due("count(1)", x.count(1), 11 + i);
        }
        CHECK.due("cutting(9, 3)", x.cutting(9, 3), 10);
        CHECK.due("anew()", x.anew(), 5);
        CHECK.due("count(1)", x.count(1), 15);
    }

    /** 37: "the CABLE of a PORT is gone: how many BUSES there are": from either end. */
    private static void pullAnswersBuses() {
        CableElection x = Check.netOf(FOUR);
        x.plug(0, 1, 2, 1, 1);
        CHECK.due("pull out of a ring", x.pull(1, 0), 2);
        CHECK.due("port(0, 0, 1), the other end", x.port(0, 0, 1), -1);
        CHECK.due("port(0, 0, 0), the other end", x.port(0, 0, 0), 0);
        CHECK.due("count(1)", x.count(1), 2);
        CHECK.due("pull out of a tree", x.pull(2, 1), 3);
        CHECK.due("pull of the last", x.pull(1, 1), 4);
        CHECK.due("count(1)", x.count(1), 0);
        CHECK.due("count(4)", x.count(4), 4);
    }

    /** 37: "-2: there are none such; -5: it has none". */
    private static void pullNoneSuch() {
        CableElection x = Check.netOf(FOUR);
        for (int node : absent(4)) {
            CHECK.due("pull(" + node + ", 0)", x.pull(node, 0), -2);
            CHECK.due("pull(0, " + node + ")", x.pull(0, node), -2);
        }
        CHECK.due("pull(0, 1), the last port, has none", x.pull(0, 1), -5);
        CHECK.due("pull(0, 2), behind the last", x.pull(0, 2), -2);
        CHECK.due("pull(3, 0)", x.pull(3, 0), -5);
        CHECK.due("pull(3, 1)", x.pull(3, 1), -2);
        CHECK.due("pull(0, 0)", x.pull(0, 0), 3);
        CHECK.due("pull(0, 0) again", x.pull(0, 0), -5);
        CHECK.due("pull(1, 0), its other end", x.pull(1, 0), -5);
        CHECK.due("count(4)", x.count(4), 1);
    }

    /** 38: "ROOT of its BUS". */
    private static void forceAnswersRoot() {
        CableElection x = Check.netOf(FOUR);
        CHECK.due("root(0)", x.root(0), 1);
        CHECK.due("force(0, 1)", x.force(0, 1), 0);
        // Both call at 9: b hears c at 10, calls a, who has called it, and is the greater one.
        CHECK.due("force(2, 1), both wait", x.force(2, 1), 1);
        CHECK.due("force(0, 0)", x.force(0, 0), 2);
        CHECK.due("force(3, 1), alone", x.force(3, 1), 3);
        CHECK.due("force(2, 0)", x.force(2, 0), 1);
        CHECK.due("count(4)", x.count(4), 5);
        CHECK.due("anew()", x.anew(), 5);
        CHECK.due("force(3, 0), not forced", x.force(3, 0), -5);
    }

    /** 38: "NONE: a LOOP": yet the act is done. */
    private static void forceInALoop() {
        CableElection x = Check.netOf(FOUR);
        x.plug(0, 1, 2, 1, 1);
        CHECK.due("force(0, 1)", x.force(0, 1), -1);
        CHECK.due("count(4)", x.count(4), 2);
        CHECK.due("force(0, 1) again", x.force(0, 1), -5);
        CHECK.due("pull(0, 1), the ring is open", x.pull(0, 1), 2);
        CHECK.due("root(1), by force", x.root(1), 0);
        x.undo();
        CHECK.due("force(0, 0)", x.force(0, 0), -1);
        CHECK.due("count(4)", x.count(4), 3);
    }

    /** 38: "-2: there are none such; -5: it is so". */
    private static void forceNoneSuch() {
        CableElection x = Check.netOf("bus wait 0 delay 0;node a ports 1;node b ports 1 force;");
        for (int node : absent(2)) {
            CHECK.due("force(" + node + ", 1)", x.force(node, 1), -2);
            CHECK.due("force(" + node + ", 0)", x.force(node, 0), -2);
        }
        for (int is : new int[] {-1, 2, 3, Integer.MAX_VALUE, Integer.MIN_VALUE}) {
            CHECK.due("force(0, " + is + ")", x.force(0, is), -2);
            CHECK.due("force(1, " + is + ")", x.force(1, is), -2);
        }
        CHECK.due("force(0, 0), it is so", x.force(0, 0), -5);
        CHECK.due("force(1, 1), it is so", x.force(1, 1), -5);
        CHECK.due("count(4)", x.count(4), 0);
        CHECK.due("force(0, 1)", x.force(0, 1), 0);
        CHECK.due("force(1, 0)", x.force(1, 0), 1);
        CHECK.due("count(4)", x.count(4), 2);
    }

    private static void forceTimes(CableElection x, int times) {
        for (int i = 0; i < times; i++) {
            x.force(3, 1 - x.count(4) % 2);
        }
    }

    /** 36 to 38: "-5: there were 20 acts": the twentieth is fine, for each kind of act. */
    private static void twentyActs() {
        CableElection x = Check.netOf(FOUR);
        forceTimes(x, 19);
        CHECK.due("count(4)", x.count(4), 19);
        CHECK.due("plug, the twentieth", x.plug(0, 1, 2, 1, 1), 2);
        CHECK.due("plug, a twenty-first", x.plug(1, 2, 3, 0, 1), -5);
        CHECK.due("undo()", x.undo(), 19);
        CHECK.due("pull, the twentieth", x.pull(0, 0), 3);
        CHECK.due("pull, a twenty-first", x.pull(1, 1), -5);
        CHECK.due("undo()", x.undo(), 19);
        CHECK.due("force, the twentieth", x.force(2, 1), 2);
        CHECK.due("force, a twenty-first", x.force(0, 1), -5);
        CHECK.due("count(4)", x.count(4), 20);
        for (int left = 19; left >= 0; left--) {
            CHECK.due("undo()", x.undo(), left);
        }
        CHECK.due("undo(), none left", x.undo(), -5);
    }

    /** A refused call is no act: twenty are still to come. */
    private static void refusedActsDoNotCount() {
        CableElection x = Check.netOf(FOUR);
        for (int i = 0; i < 25; i++) {
            x.pull(0, 1);
            x.pull(0, 2);
            x.plug(0, 0, 1, 0, 1);
            x.plug(0, 0, 0, 0, 1);
            x.force(0, 0);
            x.force(0, 2);
            CHECK.due("count(4)", x.count(4), 0);
        }
        forceTimes(x, 20);
        CHECK.due("count(4)", x.count(4), 20);
    }

    /** Promise 4: "no acts": another net has twenty of its own; a faulty one has not. */
    private static void twentyActsOfEachNet() {
        CableElection x = Check.netOf(FOUR);
        forceTimes(x, 20);
        Check.tell(x, "bus");
        x.net();
        CHECK.due("pull behind a faulty net", x.pull(0, 0), -5);
        CHECK.due("count(4)", x.count(4), 20);
        Check.tell(x, FOUR);
        x.net();
        CHECK.due("count(4)", x.count(4), 0);
        forceTimes(x, 20);
        CHECK.due("count(4)", x.count(4), 20);
        CHECK.due("anew()", x.anew(), 20);
        forceTimes(x, 20);
        CHECK.due("count(4), twenty more behind anew()", x.count(4), 20);
    }

    /** -2 is told ahead of -5, be the acts full or the port not free. */
    private static void noneSuchAheadOfRefused() {
        CableElection x = Check.netOf(FOUR);
        CHECK.due("plug, has one and too long", x.plug(0, 0, 3, 0, 10), -2);
        CHECK.due("plug, has one and no port there", x.plug(0, 0, 3, 1, 1), -2);
        CHECK.due("plug, has one, at one node", x.plug(1, 0, 1, 1, 1), -2);
        forceTimes(x, 20);
        CHECK.due("plug, full", x.plug(0, 1, 2, 1, 1), -5);
        CHECK.due("plug, full and too short", x.plug(0, 1, 2, 1, 0), -2);
        CHECK.due("plug, full and no node", x.plug(0, 1, 4, 0, 1), -2);
        CHECK.due("plug, full, at one node", x.plug(1, 2, 1, 2, 1), -2);
        CHECK.due("pull, full", x.pull(0, 0), -5);
        CHECK.due("pull, full and no port", x.pull(0, 2), -2);
        CHECK.due("force, full", x.force(0, 1), -5);
        CHECK.due("force, full and no such", x.force(0, 2), -2);
        CHECK.due("force, full and no node", x.force(4, 1), -2);
    }

    private static void someActs(CableElection x) {
        Check.tell(x, FOUR);
        x.net();
        Check.tell(x, "p;p;ncc;");
        x.packets();
        x.plug(0, 1, 2, 1, 4);
        x.pull(0, 0);
        x.force(2, 1);
    }

    private static void fullOfActs(CableElection x) {
        someActs(x);
        for (int i = 3; i < 20; i++) {
            x.force(3, i % 2);
        }
    }

    /** An act that is refused: later calls answer as before. */
    private static void refusedActsChangeNothing() {
        CHECK.nothingHappens("refused acts", ChangeEdgeTest::someActs, x -> {
            CHECK.due("plug, has one", x.plug(0, 1, 3, 0, 1), -5);
            CHECK.due("plug, has one there", x.plug(3, 0, 0, 1, 1), -5);
            CHECK.due("plug, too long", x.plug(3, 0, 0, 0, 10), -2);
            CHECK.due("plug, too short", x.plug(3, 0, 0, 0, 0), -2);
            CHECK.due("plug, at one node", x.plug(1, 0, 1, 2, 1), -2);
            CHECK.due("plug, no port", x.plug(3, 1, 0, 0, 1), -2);
            CHECK.due("pull, has none", x.pull(0, 0), -5);
            CHECK.due("pull, no port", x.pull(3, 1), -2);
            CHECK.due("pull, no node", x.pull(4, 0), -2);
            CHECK.due("force, it is so", x.force(2, 1), -5);
            CHECK.due("force, it is not so", x.force(0, 0), -5);
            CHECK.due("force, neither", x.force(0, 2), -2);
        });
        CHECK.nothingHappens("acts behind the twentieth", ChangeEdgeTest::fullOfActs, x -> {
            CHECK.due("count(4)", x.count(4), 20);
            CHECK.due("plug", x.plug(3, 0, 0, 0, 1), -5);
            CHECK.due("pull", x.pull(0, 1), -5);
            CHECK.due("force", x.force(0, 1), -5);
        });
    }

    /** 39: "The latest act is taken back: how many there are." */
    private static void undoTakesBackTheLatest() {
        CableElection x = Check.netOf(FOUR);
        x.pull(0, 0);
        x.plug(0, 0, 3, 0, 7);
        x.force(0, 1);
        CHECK.due("undo() of force", x.undo(), 2);
        CHECK.due("force(0, 0), not forced", x.force(0, 0), -5);
        CHECK.due("port(0, 0, 3)", x.port(0, 0, 3), 7);
        CHECK.due("undo() of plug", x.undo(), 1);
        CHECK.due("port(0, 0, 3)", x.port(0, 0, 3), -1);
        CHECK.due("port(3, 0, 1)", x.port(3, 0, 1), -1);
        CHECK.due("undo() of pull", x.undo(), 0);
        CHECK.due("port(0, 0, 1)", x.port(0, 0, 1), 1);
        CHECK.due("port(0, 0, 2)", x.port(0, 0, 2), 0);
        CHECK.due("port(0, 0, 3)", x.port(0, 0, 3), 3);
        CHECK.due("port(1, 0, 1)", x.port(1, 0, 1), 0);
        CHECK.due("undo(), none left", x.undo(), -5);
        // A force taken back may be one that freed a node.
        x = Check.netOf(two(20, " force", "", 1));
        CHECK.due("force(0, 0)", x.force(0, 0), 1);
        CHECK.due("undo()", x.undo(), 0);
        CHECK.due("root(0)", x.root(0), 0);
        CHECK.due("force(0, 1), it is so", x.force(0, 1), -5);
    }

    /** 39: each act and its taking back: all answers are as ahead of it. */
    private static void undoIsAsIfNotDone() {
        CHECK.nothingHappens("plug and undo", ChangeEdgeTest::someActs, x -> {
            CHECK.due("plug", x.plug(3, 0, 0, 0, 9), 1);
            CHECK.due("undo()", x.undo(), 3);
        });
        CHECK.nothingHappens("pull and undo", ChangeEdgeTest::someActs, x -> {
            CHECK.due("pull", x.pull(2, 1), 3);
            CHECK.due("undo()", x.undo(), 3);
        });
        CHECK.nothingHappens("force and undo", ChangeEdgeTest::someActs, x -> {
            CHECK.due("force", x.force(0, 1), 2);
            CHECK.due("undo()", x.undo(), 3);
        });
        CHECK.nothingHappens("many acts and as many undos", ChangeEdgeTest::someActs, x -> {
            x.force(2, 0);
            x.pull(0, 1);
            x.plug(0, 0, 1, 0, 9);
            x.pull(1, 1);
            x.plug(2, 0, 0, 1, 8);
            for (int left = 7; left >= 3; left--) {
                CHECK.due("undo()", x.undo(), left);
            }
        });
    }

    /** 39: "-2: there is no NET; -5: there is none": neither changes a thing. */
    private static void undoWithoutAny() {
        CHECK.nothingHappens("undo() of none", x -> {
            Check.tell(x, FOUR);
            x.net();
        }, x -> {
            CHECK.due("undo()", x.undo(), -5);
            CHECK.due("undo()", x.undo(), -5);
        });
        CableElection x = new CableElection();
        CHECK.due("undo()", x.undo(), -2);
        Check.tell(x, "bus wait 0 delay 0;");
        x.net();
        CHECK.due("undo()", x.undo(), -5);
        CHECK.due("count(4)", x.count(4), 0);
        x.net();
        CHECK.due("undo()", x.undo(), -2);
    }

    /** 40: "All are: how many there were." */
    private static void anewTakesBackAll() {
        for (int acts : new int[] {1, 2, 19, 20}) {
            CableElection x = Check.netOf(FOUR);
            forceTimes(x, acts);
            CHECK.due("anew()", x.anew(), acts);
            CHECK.due("count(4)", x.count(4), 0);
            CHECK.due("undo()", x.undo(), -5);
            CHECK.due("anew() again", x.anew(), 0);
        }
        Check.Calls told = x -> {
            Check.tell(x, FOUR);
            x.net();
        };
        CHECK.nothingHappens("acts and anew()", told, x -> {
            x.plug(0, 1, 2, 1, 4);
            x.pull(0, 0);
            x.force(2, 1);
            x.pull(1, 1);
            x.plug(1, 1, 0, 0, 9);
            CHECK.due("anew()", x.anew(), 5);
        });
    }

    /** 40: none are taken back: 0, and nothing happens; "-2 likewise". */
    private static void anewWithoutAny() {
        CHECK.nothingHappens("anew() of none", x -> {
            Check.tell(x, FOUR);
            x.net();
        }, x -> CHECK.due("anew()", x.anew(), 0));
        CableElection x = new CableElection();
        CHECK.due("anew()", x.anew(), -2);
        Check.tell(x, "bus wait 0 delay 0;");
        x.net();
        CHECK.due("anew()", x.anew(), 0);
        x.net();
        CHECK.due("anew()", x.anew(), -2);
    }

    /** 36 to 38: "-2: there are none such", where there is no net, or one without nodes. */
    private static void actsWithoutANet() {
        for (CableElection x : new CableElection[] {new CableElection(), Check.netOf("bus wait 0 delay 0;")}) {
            CHECK.due("plug", x.plug(0, 0, 1, 0, 1), -2);
            CHECK.due("pull", x.pull(0, 0), -2);
            CHECK.due("force", x.force(0, 1), -2);
            CHECK.due("force", x.force(0, 0), -2);
            CHECK.due("count(4)", x.count(4), 0);
        }
    }
}
