/** Promises 32 to 40: another root, one cable less, and the acts. */
public final class ChangeTest {
    private static final Check CHECK = new Check("ChangeTest");
    private static final String THREE = "bus wait 9 delay 2;node a ports 2;node b ports 2;node c ports 2;"
        + "cable a 0 b 0 long 3;cable b 1 c 0 long 1;";

    public static void main(String[] args) {
        rootBy();
        cutting();
        bridges();
        spareOfARing();
        spareOfSeveral();
        spareWithoutAny();
        plug();
        moreThanFifteen();
        pull();
        force();
        twentyActs();
        undoAndAnew();
        CHECK.close();
    }

    private static void rootBy() {
        CableElection x = Check.netOf(THREE);
        CHECK.due("root(0)", x.root(0), 1);
        CHECK.due("rootBy(0)", x.rootBy(0), 0);
        CHECK.due("rootBy(1)", x.rootBy(1), 1);
        CHECK.due("rootBy(2)", x.rootBy(2), 2);
        CHECK.due("root(0) still", x.root(0), 1);
        CHECK.due("settled(0) still", x.settled(0), 84);
        CHECK.due("count(4)", x.count(4), 0);
        CHECK.due("force(0, 1)", x.force(0, 1), 0);
        CHECK.due("rootBy(0), forced already", x.rootBy(0), 0);
        CHECK.due("rootBy(3)", x.rootBy(3), -2);
        CHECK.due("rootBy(-1)", x.rootBy(-1), -2);
        x.plug(0, 1, 2, 1, 1);
        CHECK.due("rootBy(0) in a loop", x.rootBy(0), -1);
    }

    private static void cutting() {
        CableElection x = Check.netOf(THREE);
        CHECK.due("cutting(1, 0)", x.cutting(1, 0), 2);
        CHECK.due("cutting(1, 1)", x.cutting(1, 1), 2);
        CHECK.due("cutting(0, 0)", x.cutting(0, 0), 1);
        CHECK.due("cutting(0, 1), no cable", x.cutting(0, 1), -2);
        CHECK.due("cutting(0, 2)", x.cutting(0, 2), -2);
        CHECK.due("cutting(0, -1)", x.cutting(0, -1), -2);
        CHECK.due("cutting(3, 0)", x.cutting(3, 0), -2);
        CHECK.due("cutting(-1, 0)", x.cutting(-1, 0), -2);
        x.plug(0, 1, 2, 1, 1);
        CHECK.due("cutting(0, 0) of a ring", x.cutting(0, 0), 3);
        CHECK.due("count(1) still", x.count(1), 3);
    }

    private static void bridges() {
        CableElection x = Check.netOf(THREE);
        CHECK.due("bridges()", x.bridges(), 2);
        x.plug(0, 1, 2, 1, 1);
        CHECK.due("bridges() of a ring", x.bridges(), 0);
        x = Check.netOf("bus wait 0 delay 0;node a ports 3;node b ports 3;node c ports 2;node d ports 1;"
            + "cable a 0 b 0 long 1;cable a 1 b 1 long 1;cable b 2 c 0 long 1;cable c 1 d 0 long 1;");
        CHECK.due("bridges() behind two cables side by side", x.bridges(), 2);
        CHECK.due("bridges() without a net", new CableElection().bridges(), -2);
        CHECK.due("bridges() without a cable", Check.netOf("bus wait 0 delay 0;node a ports 1;").bridges(), 0);
    }

    /** A ring of four, a - b - c - d - a, told with the lengths 1, 9, 1, 1 and d's cable named from d. */
    private static final String RING = "bus wait 0 delay 0;node a ports 3;node b ports 2;node c ports 2;node d ports 2;node e ports 1;"
        + "cable d 1 a 2 long 1;cable a 1 b 0 long 1;cable b 1 c 0 long 9;cable c 1 d 0 long 1;";

    private static void spareOfARing() {
        CableElection x = Check.netOf(RING);
        // Without the long one 3 is longest: gap 2; without another one 11: gap 4.
        for (int node = 0; node < 4; node++) {
            CHECK.due("spare(" + node + ")", x.spare(node), 11);
        }
        CHECK.due("spare(4)", x.spare(4), -1);
        CHECK.due("count(1) still", x.count(1), 4);
        // A cable that leads out of the ring is none to spare, were it the longest.
        x.plug(0, 0, 4, 0, 9);
        CHECK.due("spare(4) of the tail", x.spare(4), 11);
    }

    private static void spareOfSeveral() {
        CableElection x = Check.netOf("bus wait 0 delay 0;node a ports 4;node b ports 4;node c ports 4;"
            + "cable c 0 b 3 long 1;cable b 2 a 3 long 1;cable a 1 c 2 long 1;");
        // All alike: the least node, and of its ports the least, though told last.
        CHECK.due("spare(2)", x.spare(2), 1);
        x.pull(0, 1);
        x.plug(2, 3, 0, 2, 1);
        CHECK.due("spare(2), by the lesser node's port", x.spare(2), 2);
        // Unlike lengths, yet gaps alike: 5 + 2 LONGEST of 2 and of 4 and 3 need 2 each.
        x.pull(0, 2);
        x.plug(0, 0, 2, 0, 1);
        CHECK.due("plug of a port that has one", x.count(1), 2);
        x.plug(0, 0, 2, 1, 3);
        CHECK.due("spare(0), gaps alike", x.spare(0), 0);
    }

    private static void spareWithoutAny() {
        CableElection x = Check.netOf(THREE);
        CHECK.due("spare(0) of a tree", x.spare(0), -1);
        CHECK.due("spare(3)", x.spare(3), -2);
        CHECK.due("spare(-1)", x.spare(-1), -2);
        x = Check.netOf("bus wait 0 delay 0;node a ports 3;node b ports 3;cable a 0 b 0 long 1;cable a 1 b 1 long 1;cable a 2 b 2 long 1;");
        CHECK.due("spare(0), a loop stays whichever goes", x.spare(0), -1);
        x.pull(0, 0);
        CHECK.due("spare(1), two side by side", x.spare(1), 1);
    }

    private static void plug() {
        CableElection x = Check.netOf("bus wait 0 delay 0;node a ports 2;node b ports 1;node c ports 1;");
        CHECK.due("plug, no such node", x.plug(3, 0, 1, 0, 1), -2);
        CHECK.due("plug, no such node", x.plug(-1, 0, 1, 0, 1), -2);
        CHECK.due("plug, no such other", x.plug(0, 0, 3, 0, 1), -2);
        CHECK.due("plug, no such port", x.plug(0, 2, 1, 0, 1), -2);
        CHECK.due("plug, no such port there", x.plug(0, 0, 1, 1, 1), -2);
        CHECK.due("plug, too short", x.plug(0, 0, 1, 0, 0), -2);
        CHECK.due("plug, too long", x.plug(0, 0, 1, 0, 10), -2);
        CHECK.due("plug, at one node", x.plug(0, 0, 0, 1, 1), -2);
        CHECK.due("plug", x.plug(0, 1, 1, 0, 9), 2);
        CHECK.due("count(1)", x.count(1), 1);
        CHECK.due("count(4)", x.count(4), 1);
        CHECK.due("port(1, 0, 1)", x.port(1, 0, 1), 0);
        CHECK.due("port(1, 0, 2)", x.port(1, 0, 2), 1);
        CHECK.due("port(1, 0, 3)", x.port(1, 0, 3), 9);
        CHECK.due("plug, the port has one", x.plug(0, 1, 2, 0, 1), -5);
        CHECK.due("plug, the port there has one", x.plug(2, 0, 1, 0, 1), -5);
        CHECK.due("plug, has one, at one node", x.plug(0, 1, 0, 0, 1), -2);
        CHECK.due("plug, has one, too long", x.plug(0, 1, 2, 0, 10), -2);
        CHECK.due("plug", x.plug(2, 0, 0, 0, 1), 1);
        CHECK.due("count(7)", x.count(7), 1);
    }

    /** The bound of fifteen is one of the text; plug() names none. */
    private static void moreThanFifteen() {
        CableElection x = Check.netOf(TextTest.tenNodes());
        for (int i = 0; i < 10; i++) {
            x.plug(i, 0, (i + 1) % 10, 1, 1);
            CHECK.due("plug " + i, x.plug(i, 2, (i + 1) % 10, 3, 1) > 0 ? 1 : 0, 1);
        }
        CHECK.due("count(1)", x.count(1), 20);
        CHECK.due("count(7)", x.count(7), 1);
        CHECK.due("bridges()", x.bridges(), 0);
        CHECK.due("spare(0)", x.spare(0), -1);
        CHECK.due("anew()", x.anew(), 20);
        CHECK.due("count(1)", x.count(1), 0);
    }

    private static void pull() {
        CableElection x = Check.netOf(THREE);
        CHECK.due("pull(3, 0)", x.pull(3, 0), -2);
        CHECK.due("pull(-1, 0)", x.pull(-1, 0), -2);
        CHECK.due("pull(0, 2)", x.pull(0, 2), -2);
        CHECK.due("pull(0, -1)", x.pull(0, -1), -2);
        CHECK.due("pull(0, 1)", x.pull(0, 1), -5);
        CHECK.due("pull(1, 0)", x.pull(1, 0), 2);
        CHECK.due("port(0, 0, 0)", x.port(0, 0, 0), 0);
        CHECK.due("port(1, 0, 1)", x.port(1, 0, 1), -1);
        CHECK.due("pull(0, 0)", x.pull(0, 0), -5);
        CHECK.due("root(0)", x.root(0), 0);
        CHECK.due("pull(2, 0)", x.pull(2, 0), 3);
        CHECK.due("count(1)", x.count(1), 0);
    }

    private static void force() {
        CableElection x = Check.netOf(THREE);
        CHECK.due("force(3, 1)", x.force(3, 1), -2);
        CHECK.due("force(-1, 0)", x.force(-1, 0), -2);
        CHECK.due("force(0, 2)", x.force(0, 2), -2);
        CHECK.due("force(0, -1)", x.force(0, -1), -2);
        CHECK.due("force(0, 0)", x.force(0, 0), -5);
        CHECK.due("force(2, 1)", x.force(2, 1), 2);
        CHECK.due("force(2, 1)", x.force(2, 1), -5);
        CHECK.due("settled(0)", x.settled(0), 4);
        CHECK.due("force(2, 0)", x.force(2, 0), 1);
        CHECK.due("count(4)", x.count(4), 2);
        x.plug(0, 1, 2, 1, 1);
        CHECK.due("force(0, 1) in a loop", x.force(0, 1), -1);
        CHECK.due("count(4)", x.count(4), 4);
        CHECK.due("force(0, 1) again", x.force(0, 1), -5);
    }

    private static void twentyActs() {
        CableElection x = Check.netOf(THREE);
        for (int i = 0; i < 20; i++) {
            x.force(0, (i + 1) % 2);
            CHECK.due("count(4)", x.count(4), i + 1);
        }
        CHECK.due("force, acts are over", x.force(0, 1), -5);
        CHECK.due("pull, acts are over", x.pull(0, 0), -5);
        CHECK.due("plug, acts are over", x.plug(0, 1, 2, 1, 1), -5);
        CHECK.due("force, none such", x.force(0, 2), -2);
        CHECK.due("pull, none such", x.pull(0, 2), -2);
        CHECK.due("plug, none such", x.plug(0, 1, 2, 1, 0), -2);
        CHECK.due("undo()", x.undo(), 19);
        CHECK.due("pull(0, 0)", x.pull(0, 0), 2);
        CHECK.due("count(4)", x.count(4), 20);
    }

    private static void undoAndAnew() {
        CableElection x = Check.netOf(THREE);
        CHECK.due("anew() of none", x.anew(), 0);
        CHECK.due("undo() of none", x.undo(), -5);
        x.pull(0, 0);
        CHECK.due("root(0), alone", x.root(0), 0);
        CHECK.due("undo()", x.undo(), 0);
        CHECK.due("root(0) as before", x.root(0), 1);
        CHECK.due("id(2) as before", x.id(2), 1);
        CHECK.due("count(7) as before", x.count(7), 1);
        x.force(2, 1);
        x.pull(0, 0);
        x.plug(0, 1, 2, 1, 9);
        x.pull(1, 1);
        x.plug(0, 0, 1, 1, 2);
        x.force(2, 0);
        CHECK.due("undo()", x.undo(), 5);
        CHECK.due("force(2, 1), forced again", x.force(2, 1), -5);
        CHECK.due("undo()", x.undo(), 4);
        CHECK.due("port(0, 0, 0)", x.port(0, 0, 0), 0);
        CHECK.due("undo()", x.undo(), 3);
        CHECK.due("port(2, 0, 1)", x.port(2, 0, 1), 1);
        CHECK.due("port(2, 0, 2)", x.port(2, 0, 2), 1);
        CHECK.due("port(2, 0, 3)", x.port(2, 0, 3), 1);
        CHECK.due("longest(0)", x.longest(0), 9 + 1 + 2);
        CHECK.due("anew()", x.anew(), 3);
        CHECK.due("count(4)", x.count(4), 0);
        CHECK.due("count(1)", x.count(1), 2);
        CHECK.due("settled(0)", x.settled(0), 84);
        CHECK.due("port(0, 0, 3)", x.port(0, 0, 3), 3);
        CHECK.due("port(0, 1, 0)", x.port(0, 1, 0), 0);
        CHECK.due("undo()", x.undo(), -5);
        CHECK.due("anew()", x.anew(), 0);
        x.pull(0, 0);
        Check.tell(x, THREE);
        CHECK.due("net()", x.net(), 6);
        CHECK.due("undo() behind another net", x.undo(), -5);
        x.pull(0, 0);
        x.net();
        CHECK.due("undo() without a net", x.undo(), -2);
        CHECK.due("anew() without a net", x.anew(), -2);
    }
}
