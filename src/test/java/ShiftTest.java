/**
 * Nodes are numbered "as they stand": with some that are alone ahead of them, or behind them, a
 * net's nodes answer as they did without, but that their numbers are greater. So each answer that
 * is known for small numbers is looked at for great ones, up to 9.
 */
public final class ShiftTest {
    private static final Check CHECK = new Check("ShiftTest");
    private static final int NODES = 4;

    private static final String[] NETS = {
        // A tree whose root is settled by coins.
        "node a ports 2;node b ports 4 coins 01;node c ports 3;node d ports 1;"
            + "cable a 1 b 3 long 4;cable b 1 c 2 long 2;cable c 0 d 0 long 7;",
        // A star whose root is forced.
        "node a ports 1;node b ports 4 force;node c ports 1;node d ports 2;"
            + "cable b 3 a 0 long 2;cable c 0 b 1 long 2;cable d 1 b 0 long 3;",
        // A chain in which each one's child has the lesser number.
        "node a ports 2;node b ports 2;node c ports 2;node d ports 2 force;"
            + "cable a 0 b 1 long 1;cable b 0 c 1 long 2;cable c 0 d 1 long 3;",
        // Two buses of two.
        "node a ports 4;node b ports 3;node c ports 4;node d ports 3;cable a 3 d 2 long 5;cable c 0 b 0 long 6;",
        // A ring of three with one behind it.
        "node a ports 2;node b ports 3;node c ports 2;node d ports 1;"
            + "cable a 0 b 0 long 3;cable b 1 c 0 long 1;cable c 1 a 1 long 2;cable b 2 d 0 long 9;"};

    private static final String[] PACKETS = {"", "n;", "p;c;", "pn;np;ccn;", "p;p;p;cccn;", "p;pc;pc;pc;c;"};

    public static void main(String[] args) {
        for (String net : NETS) {
            for (int ahead = 0; ahead <= 10 - NODES; ahead++) {
                for (int behind = 0; ahead + behind <= 10 - NODES; behind += 3) {
                    compare(net, ahead, behind);
                }
            }
        }
        CHECK.close();
    }

    private static String alone(char first, int many) {
        StringBuilder text = new StringBuilder();
        for (int i = 0; i < many; i++) {
            text.append("node ").append((char) (first + i)).append(" ports 2;");
        }
        return text.toString();
    }

    private static CableElection netOf(String net, int ahead, int behind) {
        return Check.netOf("bus wait 12 delay 3;" + alone('m', ahead) + net + alone('t', behind));
    }

    private static void compare(String net, int ahead, int behind) {
        CableElection x = netOf(net, 0, 0);
        CableElection y = netOf(net, ahead, behind);
        count(x, y, ahead + behind);
        for (int node = 0; node < NODES; node++) {
            ofNode(x, y, node, ahead);
            ofPorts(x, y, node, ahead);
            for (int other = 0; other < NODES; other++) {
                CHECK.due("way", y.way(node + ahead, other + ahead), x.way(node, other));
                CHECK.due("hops", y.hops(node + ahead, other + ahead), x.hops(node, other));
                CHECK.due("named", y.named(node + ahead, other), shifted(x.named(node, other), ahead));
            }
        }
        x = netOf(net, 0, 0);
        y = netOf(net, ahead, behind);
        ofSets(x, y, ahead);
        x = netOf(net, 0, 0);
        y = netOf(net, ahead, behind);
        ofPackets(x, y, ahead);
        ofActs(x, y, ahead, ahead + behind);
    }

    private static int shifted(int node, int ahead) {
        return node < 0 ? node : node + ahead;
    }

    /** Each node that is alone is a bus more. */
    private static void count(CableElection x, CableElection y, int more) {
        CHECK.due("count(0)", y.count(0), x.count(0) + more);
        CHECK.due("count(1)", y.count(1), x.count(1));
        CHECK.due("count(7)", y.count(7), x.count(7) + more);
        CHECK.due("count(8)", y.count(8), x.count(8));
        CHECK.due("bridges()", y.bridges(), x.bridges());
    }

    private static void ofNode(CableElection x, CableElection y, int node, int ahead) {
        int there = node + ahead;
        CHECK.due("root", y.root(there), shifted(x.root(node), ahead));
        CHECK.due("settled", y.settled(there), x.settled(node));
        CHECK.due("called", y.called(there), x.called(node));
        CHECK.due("rounds", y.rounds(there), x.rounds(node));
        CHECK.due("taken", y.taken(there), x.taken(node));
        CHECK.due("id", y.id(there), x.id(node));
        CHECK.due("size", y.size(there), x.size(node));
        CHECK.due("parent", y.parent(there), shifted(x.parent(node), ahead));
        CHECK.due("depth", y.depth(there), x.depth(node));
        CHECK.due("below", y.below(there), x.below(node));
        CHECK.due("longest", y.longest(there), x.longest(node));
        CHECK.due("gap", y.gap(there), x.gap(node));
        CHECK.due("centre", y.centre(there), shifted(x.centre(node), ahead));
        CHECK.due("rootBy", y.rootBy(there), shifted(x.rootBy(node), ahead));
        CHECK.due("spare", y.spare(there), shifted(x.spare(node), 10 * ahead));
    }

    private static void ofPorts(CableElection x, CableElection y, int node, int ahead) {
        int there = node + ahead;
        for (int port = -1; port <= 4; port++) {
            CHECK.due("port, 0", y.port(there, port, 0), x.port(node, port, 0));
            CHECK.due("port, 1", y.port(there, port, 1), shifted(x.port(node, port, 1), ahead));
            CHECK.due("port, 2", y.port(there, port, 2), x.port(node, port, 2));
            CHECK.due("port, 3", y.port(there, port, 3), x.port(node, port, 3));
            CHECK.due("packet", y.packet(there, port), x.packet(node, port));
            CHECK.due("cutting", y.cutting(there, port), x.cutting(node, port));
        }
    }

    private static void ofSets(CableElection x, CableElection y, int ahead) {
        for (int set = 0; set < 1 << NODES; set++) {
            int there = set << ahead;
            CHECK.due("wins", y.wins(there), shifted(x.wins(set), ahead));
            CHECK.due("grant", y.grant(there), x.grant(set));
            CHECK.due("fair", y.fair(there), x.fair(set));
            for (int k = 0; k <= NODES; k++) {
                CHECK.due("turn", y.turn(there, k), shifted(x.turn(set, k), ahead));
            }
        }
        if (ahead > 0) {
            CHECK.due("wins with one that is alone", y.wins(1 << ahead | 1), -2);
            CHECK.due("wins by one that is alone", y.wins(1 << ahead - 1), ahead - 1);
        }
    }

    private static void ofPackets(CableElection x, CableElection y, int ahead) {
        for (String told : PACKETS) {
            Check.tell(x, told);
            Check.tell(y, told);
            CHECK.due("packets()", y.packets(), x.packets());
            for (int node = 0; node < NODES; node++) {
                CHECK.due("unlike", y.unlike(node + ahead), x.unlike(node));
            }
        }
    }

    /** Acts of each kind, refused ones, too, and all that they change. */
    private static void ofActs(CableElection x, CableElection y, int ahead, int more) {
        for (int node = 0; node < NODES; node++) {
            int next = (node + 1) % NODES;
            CHECK.due("force", y.force(node + ahead, 1), shifted(x.force(node, 1), ahead));
            CHECK.due("pull", y.pull(node + ahead, 0), buses(x.pull(node, 0), more));
            CHECK.due("plug", y.plug(node + ahead, 0, next + ahead, 1, 8), buses(x.plug(node, 0, next, 1, 8), more));
            count(x, y, more);
            CHECK.due("root", y.root(next + ahead), shifted(x.root(next), ahead));
            CHECK.due("settled", y.settled(node + ahead), x.settled(node));
            CHECK.due("spare", y.spare(node + ahead), shifted(x.spare(node), 10 * ahead));
        }
        CHECK.due("undo()", y.undo(), x.undo());
        count(x, y, more);
        CHECK.due("anew()", y.anew(), x.anew());
        count(x, y, more);
        for (int node = 0; node < NODES; node++) {
            ofNode(x, y, node, ahead);
        }
    }

    private static int buses(int answer, int more) {
        return answer < 0 ? answer : answer + more;
    }
}
