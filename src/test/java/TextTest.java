/** Promises 1 to 6: the tape, the text and its faults, what is counted. */
public final class TextTest {
    private static final String BUS = "bus wait 0 delay 0;";
    private static final Check CHECK = new Check("TextTest");

    public static void main(String[] args) {
        aNewObject();
        feedAndEnd();
        netsThatAreFine();
        tokens();
        faultsOfTokens();
        faultsOfValues();
        faultsOfTooMany();
        faultLeavesAllElse();
        faultOfLatest();
        counts();
        CHECK.close();
    }

    private static void aNewObject() {
        CableElection x = new CableElection();
        for (int what = 0; what <= 8; what++) {
            CHECK.due("count(" + what + ") of a new one", x.count(what), 0);
        }
        CHECK.due("bridges() of a new one", x.bridges(), -2);
        CHECK.due("undo() of a new one", x.undo(), -2);
        CHECK.due("anew() of a new one", x.anew(), -2);
        CHECK.due("root(0) of a new one", x.root(0), -2);
        CHECK.due("built(0, 0) of a new one", x.built(0, 0), -2);
        CHECK.due("net() of an empty tape", x.net(), 0);
        CHECK.due("bridges() behind it", x.bridges(), -2);
    }

    private static void feedAndEnd() {
        CableElection x = new CableElection();
        CHECK.due("end(0)", x.end(0), 0);
        CHECK.due("end(1) of none", x.end(1), -1);
        for (int i = 1; i <= 35; i++) {
            CHECK.due("feed " + i, x.feed(-1, 0, 1, 2, 3), 20 * i);
        }
        CHECK.due("feed above 700", x.feed(0, 0, 0, 0, 0), -1);
        CHECK.due("count(6)", x.count(6), 700);
        CHECK.due("end(701)", x.end(701), -1);
        CHECK.due("end(-1)", x.end(-1), -1);
        CHECK.due("end(700)", x.end(700), 700);
        CHECK.due("end(681)", x.end(681), 681);
        CHECK.due("feed behind 681", x.feed(0, 0, 0, 0, 0), -1);
        CHECK.due("end(680)", x.end(680), 680);
        CHECK.due("feed behind 680", x.feed(0, 0, 0, 0, 0), 700);
        CHECK.due("end(0)", x.end(0), 0);
        // The highest byte first: b, u, s and a blank.
        CHECK.due("feed", x.feed(0x62757320, 0x77616974, 0x20372064, 0x656c6179, 0x20333b20), 20);
        CHECK.due("net()", x.net(), 1);
        CHECK.due("count(2)", x.count(2), 7);
        CHECK.due("count(3)", x.count(3), 3);
        CHECK.due("count(6)", x.count(6), 0);
    }

    private static void netsThatAreFine() {
        CableElection x = new CableElection();
        Check.tell(x, "bus wait 20 delay 9;\nnode wait ports 4 force coins 01100110;node abcdef ports 1 coins 1;"
            + "cable wait 3 abcdef 0 long 9;node delay ports 2 force;");
        CHECK.due("net()", x.net(), 5);
        CHECK.due("fault(0)", x.fault(0), 0);
        CHECK.due("fault(1)", x.fault(1), -1);
        CHECK.due("count(0)", x.count(0), 3);
        CHECK.due("count(1)", x.count(1), 1);
        CHECK.due("count(2)", x.count(2), 20);
        CHECK.due("count(3)", x.count(3), 9);
        CHECK.due("count(5)", x.count(5), 5);
        CHECK.due("force(0, 1)", x.force(0, 1), -5);
        CHECK.due("force(1, 0)", x.force(1, 0), -5);
        CHECK.due("force(2, 1)", x.force(2, 1), -5);
        CHECK.due("pull(0, 3)", x.pull(0, 3), 3);
        Check.tell(x, BUS);
        CHECK.due("net() in place of another", x.net(), 1);
        CHECK.due("count(0)", x.count(0), 0);
        CHECK.due("count(1)", x.count(1), 0);
        CHECK.due("count(4)", x.count(4), 0);
        CHECK.due("count(7)", x.count(7), 0);
        CHECK.due("bridges() without NODES", x.bridges(), 0);
        CHECK.due("undo() without acts", x.undo(), -5);
        Check.tell(x, " \n ");
        CHECK.due("net() of blanks", x.net(), 0);
        CHECK.due("count(5)", x.count(5), 0);
        CHECK.due("undo() without a NET", x.undo(), -2);
        Check.tell(x, tenNodes() + fifteenCables());
        CHECK.due("net() with as many as may be", x.net(), 26);
        CHECK.due("count(0)", x.count(0), 10);
        CHECK.due("count(1)", x.count(1), 15);
    }

    private static void tokens() {
        CableElection x = new CableElection();
        Check.tell(x, BUS + "node az ports 1;node za ports 2;cable az 0 za 1 long 1;");
        CHECK.due("net() with the first letter and the last", x.net(), 4);
        CHECK.due("port(0, 0, 2)", x.port(0, 0, 2), 1);
        CHECK.refused(BUS + "node a{ ports 1;", 1, 25);
        CHECK.refused(BUS + "node a` ports 1;", 1, 25);
        CHECK.refused(BUS + "node a ports 1/", 1, 33);
        CHECK.refused(BUS + "node a ports 1:", 1, 33);
        Check.tell(x, "bus\nwait007delay0009;node\na ports2coins0 ; node force1");
        CHECK.due("net()", x.net(), -4);
        CHECK.due("fault(0)", x.fault(0), 2);
        CHECK.due("fault(1)", x.fault(1), 48);
        Check.tell(x, "bus\nwait007delay0009;node\na ports2coins0 ;\n");
        CHECK.due("net() without blanks", x.net(), 2);
        CHECK.due("count(2)", x.count(2), 7);
        CHECK.due("count(3)", x.count(3), 9);
        // A number that would come back into its bounds if it wrapped around.
        CHECK.refused("bus wait 4294967297 delay 0;", 2, 9);
        CHECK.refused("bus wait 18446744073709551616 delay 0;", 2, 9);
        Check.tell(x, "bus wait 00000000000000000000000000000019 delay 0;");
        CHECK.due("net() with zeros ahead", x.net(), 1);
        CHECK.due("count(2)", x.count(2), 19);
    }

    private static void faultsOfTokens() {
        CHECK.refused(";", 1, 0);
        CHECK.refused("5", 1, 0);
        CHECK.refused("  Bus wait 0 delay 0;", 1, 2);
        CHECK.refused("node a ports 1;", 1, 0);
        CHECK.refused("cable", 1, 0);
        CHECK.refused("bus", 1, 3);
        CHECK.refused("bus  ", 1, 5);
        CHECK.refused("bus delay 0 wait 0;", 1, 4);
        CHECK.refused("bus wait x delay 0;", 1, 9);
        CHECK.refused("bus wait 0 0;", 1, 11);
        CHECK.refused("bus wait 0 delay;", 1, 16);
        CHECK.refused("bus wait 0 delay 0", 1, 18);
        CHECK.refused("bus wait 0 delay 0 node a ports 1;", 1, 19);
        CHECK.refused(BUS + BUS, 1, 19);
        CHECK.refused(BUS + ";", 1, 19);
        CHECK.refused(BUS + "7", 1, 19);
        CHECK.refused(BUS + "wire", 1, 19);
        CHECK.refused(BUS + "nodes a ports 1;", 1, 19);
        CHECK.refused(BUS + "node 5", 1, 24);
        CHECK.refused(BUS + "node", 1, 23);
        CHECK.refused(BUS + "node ;", 1, 24);
        CHECK.refused(BUS + "node a port 1;", 1, 26);
        CHECK.refused(BUS + "node a ports b;", 1, 32);
        CHECK.refused(BUS + "node a ports 1 2;", 1, 34);
        CHECK.refused(BUS + "node a ports 1 forced;", 1, 34);
        CHECK.refused(BUS + "node a ports 1 force force;", 1, 40);
        CHECK.refused(BUS + "node a ports 1 coins 1 force;", 1, 42);
        CHECK.refused(BUS + "node a ports 1 coins;", 1, 39);
        CHECK.refused(BUS + "node a ports 1 coins x;", 1, 40);
        CHECK.refused(BUS + "node a ports 1 coins 1 1;", 1, 42);
        CHECK.refused(BUS + "node a\tports 1;", 1, 25);
        CHECK.refused(BUS + "node a,ports 1;", 1, 25);
        CHECK.refused(BUS + "\0", 1, 19);
        CHECK.refused(BUS + (char) 233, 1, 19);
        String two = BUS + "node a ports 1;node b ports 2;";
        CHECK.refused(two + "cable ", 1, 55);
        CHECK.refused(two + "cable 0", 1, 55);
        CHECK.refused(two + "cable a b", 1, 57);
        CHECK.refused(two + "cable a 0 0", 1, 59);
        CHECK.refused(two + "cable a 0 b long", 1, 61);
        CHECK.refused(two + "cable a 0 b 0 9;", 1, 63);
        CHECK.refused(two + "cable a 0 b 0 length 9;", 1, 63);
        CHECK.refused(two + "cable a 0 b 0 long;", 1, 67);
        CHECK.refused(two + "cable a 0 b 0 long 1", 1, 69);
    }

    private static void faultsOfValues() {
        CHECK.refused("bus wait 21 delay 10;", 2, 9);
        CHECK.refused("bus wait 20 delay 10;", 2, 18);
        CHECK.refused(BUS + "node abcdefg ports 1;", 2, 24);
        for (String word : new String[] {"bus", "node", "cable", "force", "coins"}) {
            CHECK.refused(BUS + "node " + word + " ports 1;", 2, 24);
        }
        CHECK.refused(BUS + "node a ports 0;", 2, 32);
        CHECK.refused(BUS + "node a ports 5;", 2, 32);
        CHECK.refused(BUS + "node a ports 1;node a ports 1;", 2, 39);
        CHECK.refused(BUS + "node a ports 1 coins 2;", 2, 40);
        CHECK.refused(BUS + "node a ports 1 coins 000000000;", 2, 40);
        CHECK.refused(BUS + "node a ports 1 coins 00000002;", 2, 40);
        String two = BUS + "node a ports 1;node b ports 2;";
        CHECK.refused(two + "cable c 0 a 0 long 1;", 2, 55);
        CHECK.refused(two + "cable abcdefg 0 a 0 long 1;", 2, 55);
        CHECK.refused(two + "cable node 0 a 0 long 1;", 2, 55);
        CHECK.refused(two + "cable a 1 b 0 long 1;", 2, 57);
        CHECK.refused(two + "cable a 99999999999 b 0 long 1;", 2, 57);
        CHECK.refused(two + "cable a 0 c 0 long 1;", 2, 59);
        CHECK.refused(two + "cable a 0 a 0 long 1;", 2, 59);
        CHECK.refused(two + "cable a 0 b 2 long 1;", 2, 61);
        CHECK.refused(two + "cable a 0 b 1 long 0;", 2, 68);
        CHECK.refused(two + "cable a 0 b 1 long 10;", 2, 68);
        CHECK.refused(two + "cable a 0 b 1 long 1;cable b 0 a 0", 2, 82);
        CHECK.refused(two + "cable a 0 b 1 long 1;cable b 1 a", 2, 78);
        // A node that is told behind the cable is not told yet.
        CHECK.refused(BUS + "node a ports 1;cable a 0 b 0 long 1;node b ports 1;", 2, 44);
    }

    private static void faultsOfTooMany() {
        String ten = tenNodes();
        CHECK.refused(ten + "node", 3, ten.length());
        CHECK.refused(ten + "node a", 3, ten.length());
        String full = ten + fifteenCables();
        CHECK.refused(full + "cable", 3, full.length());
        CHECK.refused(full + "node", 3, full.length());
        CHECK.refused(full + "cables", 1, full.length());
    }

    static String tenNodes() {
        StringBuilder text = new StringBuilder(BUS);
        for (int i = 0; i < 10; i++) {
            text.append("node ").append((char) ('a' + i)).append(" ports 4;");
        }
        return text.toString();
    }

    private static String fifteenCables() {
        StringBuilder text = new StringBuilder();
        for (int i = 0; i < 10; i++) {
            text.append("cable ").append((char) ('a' + i)).append(" 0 ").append((char) ('a' + (i + 1) % 10)).append(" 1 long 1;");
        }
        for (int i = 0; i < 5; i++) {
            text.append("cable ").append((char) ('a' + i)).append(" 2 ").append((char) ('a' + i + 5)).append(" 2 long 1;");
        }
        return text.toString();
    }

    private static void faultLeavesAllElse() {
        CableElection x = Check.netOf("bus wait 3 delay 4;node a ports 1;node b ports 1;cable a 0 b 0 long 2;");
        CHECK.due("pull(0, 0)", x.pull(0, 0), 2);
        Check.tell(x, "bus wait 1 delay 1;node a ports 1;node a ports 1;");
        CHECK.due("net()", x.net(), -4);
        CHECK.due("count(0)", x.count(0), 2);
        CHECK.due("count(1)", x.count(1), 0);
        CHECK.due("count(2)", x.count(2), 3);
        CHECK.due("count(3)", x.count(3), 4);
        CHECK.due("count(4)", x.count(4), 1);
        CHECK.due("count(5)", x.count(5), 4);
        CHECK.due("count(6)", x.count(6), 0);
        CHECK.due("count(7)", x.count(7), 2);
        CHECK.due("undo()", x.undo(), 0);
        CHECK.due("count(1)", x.count(1), 1);
    }

    private static void faultOfLatest() {
        CableElection x = new CableElection();
        CHECK.due("fault(0) ahead of any", x.fault(0), 0);
        CHECK.due("fault(1) ahead of any", x.fault(1), -1);
        CHECK.due("fault(2) ahead of any", x.fault(2), -1);
        Check.tell(x, "bus");
        x.net();
        CHECK.due("fault(0)", x.fault(0), 1);
        CHECK.due("fault(1)", x.fault(1), 3);
        CHECK.due("fault(2)", x.fault(2), -1);
        CHECK.due("fault(-1)", x.fault(-1), -1);
        Check.tell(x, "n;");
        x.packets();
        CHECK.due("fault(0) behind packets()", x.fault(0), 0);
        CHECK.due("fault(1) behind packets()", x.fault(1), -1);
        Check.tell(x, "n;p;");
        x.packets();
        CHECK.due("fault(0) behind packets()", x.fault(0), 3);
        CHECK.due("fault(1) behind packets()", x.fault(1), 2);
        x.net();
        CHECK.due("fault(0) behind net()", x.fault(0), 0);
        CHECK.due("fault(1) behind net()", x.fault(1), -1);
    }

    private static void counts() {
        CableElection x = Check.netOf("bus wait 3 delay 4;node a ports 2;node b ports 2;node c ports 1;node d ports 2;node e ports 2;"
            + "cable a 0 b 0 long 2;cable a 1 b 1 long 2;");
        CHECK.due("count(7)", x.count(7), 4);
        CHECK.due("count(8)", x.count(8), 1);
        CHECK.due("plug(3, 0, 4, 0, 1)", x.plug(3, 0, 4, 0, 1), 3);
        CHECK.due("plug(3, 1, 4, 1, 1)", x.plug(3, 1, 4, 1, 1), 3);
        CHECK.due("count(1)", x.count(1), 4);
        CHECK.due("count(4)", x.count(4), 2);
        CHECK.due("count(7)", x.count(7), 3);
        CHECK.due("count(8)", x.count(8), 2);
        x.feed(0, 0, 0, 0, 0);
        CHECK.due("count(6)", x.count(6), 20);
        CHECK.due("count(9)", x.count(9), -1);
        CHECK.due("count(-1)", x.count(-1), -1);
    }
}
