/** Promises 25 to 27: packets told, the tree built from them, and what differs. */
public final class PacketTest {
    private static final Check CHECK = new Check("PacketTest");
    private static final String NET = "bus wait 0 delay 0;node a ports 2;node b ports 3;node c ports 1;"
        + "cable a 0 b 0 long 1;cable b 2 c 0 long 1;node d ports 1;";

    public static void main(String[] args) {
        builtTree();
        latestAtTheLast();
        emptyAndFaulty();
        faults();
        twelve();
        differences();
        CHECK.close();
    }

    private static CableElection toldAs(String text, int many) {
        CableElection x = new CableElection();
        Check.tell(x, text);
        CHECK.due("packets() of " + text, x.packets(), many);
        CHECK.due("fault(0) of " + text, x.fault(0), 0);
        CHECK.due("fault(1) of " + text, x.fault(1), -1);
        CHECK.due("count(6) of " + text, x.count(6), 0);
        return x;
    }

    private static void nodeIs(CableElection x, int i, int... want) {
        for (int what = 0; what < 5; what++) {
            CHECK.due("built(" + i + ", " + what + ")", x.built(i, what), want[what]);
        }
    }

    private static void builtTree() {
        // 0 and 1 below 2, that by its port 2 below 4; 3 too; 4 is the root.
        CableElection x = toldAs("p;np;ccpn ;\nnnnp;ncnc;", 5);
        nodeIs(x, 0, 2, 0, 0, 0, 2);
        nodeIs(x, 1, 2, 1, 1, 0, 2);
        nodeIs(x, 2, 4, 2, 1, 2, 1);
        nodeIs(x, 3, 4, 3, 3, 0, 1);
        nodeIs(x, 4, -1, -1, -1, 2, 0);
        CHECK.due("built(5, 0)", x.built(5, 0), -2);
        CHECK.due("built(-1, 0)", x.built(-1, 0), -2);
        CHECK.due("built(0, -1)", x.built(0, -1), -2);
        CHECK.due("built(0, 5)", x.built(0, 5), -2);
        CHECK.due("count(5)", x.count(5), 0);
        x = toldAs("nnnn;", 1);
        nodeIs(x, 0, -1, -1, -1, 0, 0);
    }

    private static void latestAtTheLast() {
        // 2 takes the latest alone: 1. 3 has then 0 and 2.
        CableElection x = toldAs("p;p;cp;ccn;", 4);
        nodeIs(x, 1, 2, 0, 0, 0, 2);
        nodeIs(x, 0, 3, 0, 0, 0, 1);
        nodeIs(x, 2, 3, 1, 1, 1, 1);
    }

    private static void emptyAndFaulty() {
        CableElection x = toldAs("p;c;", 2);
        Check.tell(x, "p;c");
        CHECK.due("packets()", x.packets(), -4);
        CHECK.due("fault(0)", x.fault(0), 1);
        CHECK.due("fault(1)", x.fault(1), 3);
        nodeIs(x, 0, 1, 0, 0, 0, 1);
        CHECK.due("net() of an empty tape", x.net(), 0);
        nodeIs(x, 1, -1, -1, -1, 1, 0);
        CHECK.due("packets() of an empty tape", x.packets(), 0);
        CHECK.due("fault(0)", x.fault(0), 0);
        CHECK.due("built(0, 0)", x.built(0, 0), -2);
        toldAs(" \n", 0);
    }

    private static void faults() {
        CHECK.refusedPackets("x;", 1, 0);
        CHECK.refusedPackets(";", 1, 0);
        CHECK.refusedPackets("1;", 1, 0);
        CHECK.refusedPackets("P;", 1, 0);
        CHECK.refusedPackets("n;;", 1, 2);
        CHECK.refusedPackets("n;\0", 1, 2);
        CHECK.refusedPackets("pnp;", 1, 0);
        CHECK.refusedPackets("nnnnn;", 1, 0);
        CHECK.refusedPackets("pn1;", 1, 2);
        CHECK.refusedPackets(" p n;", 1, 3);
        CHECK.refusedPackets("n", 1, 1);
        CHECK.refusedPackets("n \n", 1, 3);
        CHECK.refusedPackets("pc;", 2, 0);
        CHECK.refusedPackets("p; cc;", 2, 3);
        CHECK.refusedPackets("p;n;", 2, 2);
        CHECK.refusedPackets("p;p;c;", 2, 4);
        // The root is without a parent, too, for the words behind it.
        CHECK.refusedPackets("n;n;", 2, 2);
        CHECK.refusedPackets("n;cc;", 2, 2);
        CHECK.refusedPackets("n;c;", 3, 2);
        CHECK.refusedPackets("n;pc;", 3, 2);
        CHECK.refusedPackets("n;p", 3, 2);
        CHECK.refusedPackets("n;x;", 1, 2);
        CHECK.refusedPackets("p;", 4, 2);
        CHECK.refusedPackets("p;pc; ", 4, 6);
    }

    private static void twelve() {
        String eleven = "p;" + "pc;".repeat(10);
        CableElection x = toldAs(eleven + "c;", 12);
        CHECK.due("built(0, 4)", x.built(0, 4), 11);
        CHECK.due("built(11, 4)", x.built(11, 4), 0);
        CHECK.refusedPackets(eleven + "pc;c;", 3, 35);
        CHECK.refusedPackets(eleven + "pc;x;", 1, 35);
        CHECK.refusedPackets(eleven + "pc;pcc;", 2, 35);
        CHECK.refusedPackets(eleven + "pc;", 4, 35);
    }

    private static void differences() {
        CableElection x = Check.netOf(NET);
        // Root b; ids a 0, c 1, b 2: pn, p, cnc.
        CHECK.due("unlike(0), none told", x.unlike(0), 6);
        CHECK.due("unlike(3), none told", x.unlike(3), 1);
        Check.tell(x, "pn;p;cnc;");
        CHECK.due("packets()", x.packets(), 3);
        CHECK.due("unlike(1), as told", x.unlike(1), 0);
        CHECK.due("unlike(3)", x.unlike(3), 1 + 1 + 1 + 3);
        Check.tell(x, "p;pn;nncc;");
        CHECK.due("packets()", x.packets(), 3);
        // A letter less, a letter more; n for c, c for no letter.
        CHECK.due("unlike(0)", x.unlike(0), 1 + 1 + 2);
        Check.tell(x, "p;cnp;pc;c;");
        CHECK.due("packets()", x.packets(), 4);
        CHECK.due("unlike(0)", x.unlike(0), 1 + 3 + 3 + 1);
        CHECK.due("unlike(4)", x.unlike(4), -2);
        CHECK.due("unlike(-1)", x.unlike(-1), -2);
        x.plug(0, 1, 1, 1, 1);
        CHECK.due("unlike(0) in a loop", x.unlike(0), -1);
        CHECK.due("unlike(3) beside a loop", x.unlike(3), 1 + 3 + 2 + 1);
    }
}
