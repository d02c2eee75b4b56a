/** Promises 7 to 12: ports, calls, contention and the root. */
public final class CallTest {
    private static final Check CHECK = new Check("CallTest");

    public static void main(String[] args) {
        ports();
        absent();
        aNodeAlone();
        rootWithoutContention();
        contentionByCoins();
        tenRoundsAlike();
        lateCalls();
        forcedWaits();
        callThatComesAtTheSameTick();
        loops();
        parallelCables();
        CHECK.close();
    }

    private static void ports() {
        CableElection x = Check.netOf("bus wait 0 delay 0;node a ports 3;node b ports 1;node c ports 4;cable c 3 a 1 long 7;cable a 2 b 0 long 4;");
        // a hears b at 4 and calls c then, whose call is under way since 0.
        CHECK.due("called(0)", x.called(0), 4);
        CHECK.due("port(0, 0, 0)", x.port(0, 0, 0), 0);
        CHECK.due("port(0, 0, 1)", x.port(0, 0, 1), -1);
        CHECK.due("port(0, 0, 2)", x.port(0, 0, 2), -1);
        CHECK.due("port(0, 0, 3)", x.port(0, 0, 3), -1);
        CHECK.due("port(0, 1, 1)", x.port(0, 1, 1), 2);
        CHECK.due("port(0, 1, 2)", x.port(0, 1, 2), 3);
        CHECK.due("port(0, 1, 3)", x.port(0, 1, 3), 7);
        CHECK.due("port(2, 3, 1)", x.port(2, 3, 1), 0);
        CHECK.due("port(2, 3, 2)", x.port(2, 3, 2), 1);
        CHECK.due("port(0, 2, 0)", x.port(0, 2, 0), 2);
        CHECK.due("port(1, 0, 0)", x.port(1, 0, 0), 1);
        CHECK.due("port(0, 2, 3)", x.port(0, 2, 3), 4);
        CHECK.due("port(0, 3, 0)", x.port(0, 3, 0), -2);
        CHECK.due("port(0, -1, 0)", x.port(0, -1, 0), -2);
        CHECK.due("port(0, 0, 4)", x.port(0, 0, 4), -2);
        CHECK.due("port(0, 0, -1)", x.port(0, 0, -1), -2);
        CHECK.due("port(3, 0, 0)", x.port(3, 0, 0), -2);
        CHECK.due("port(-1, 0, 0)", x.port(-1, 0, 0), -2);
        CHECK.due("port(2, 4, 0)", x.port(2, 4, 0), -2);
    }

    private static void absent() {
        CableElection x = Check.netOf("bus wait 0 delay 0;node a ports 1;");
        for (int node : new int[] {-1, 1, Integer.MAX_VALUE, Integer.MIN_VALUE}) {
            CHECK.due("root", x.root(node), -2);
            CHECK.due("settled", x.settled(node), -2);
            CHECK.due("called", x.called(node), -2);
            CHECK.due("rounds", x.rounds(node), -2);
            CHECK.due("taken", x.taken(node), -2);
        }
    }

    private static void aNodeAlone() {
        CableElection x = Check.netOf("bus wait 9 delay 0;node a ports 4 force;node b ports 1;");
        for (int node = 0; node < 2; node++) {
            CHECK.due("root", x.root(node), node);
            CHECK.due("settled", x.settled(node), 0);
            CHECK.due("called", x.called(node), -1);
            CHECK.due("rounds", x.rounds(node), 0);
            CHECK.due("taken", x.taken(node), 0);
        }
    }

    private static void rootWithoutContention() {
        // A star of three leaves: the middle hears at 1, 2 and 2, and has not called by then.
        CableElection x = Check.netOf("bus wait 0 delay 0;node a ports 1;node m ports 3;node b ports 1;node c ports 1;"
            + "cable m 0 a 0 long 1;cable m 1 b 0 long 2;cable m 2 c 0 long 2;");
        CHECK.due("root(0)", x.root(0), 1);
        CHECK.due("settled(3)", x.settled(3), 2);
        CHECK.due("called(1)", x.called(1), -1);
        CHECK.due("called(0)", x.called(0), 0);
        CHECK.due("rounds(1)", x.rounds(1), 0);
        CHECK.due("taken(1)", x.taken(1), 0);
        CHECK.due("port(1, 2, 0)", x.port(1, 2, 0), 2);
    }

    private static String pair(int length, String coins, String others) {
        return "bus wait 0 delay 0;node a ports 1" + coins + ";node b ports 1" + others + ";cable a 0 b 0 long " + length + ";";
    }

    private static void contentionByCoins() {
        CableElection x = Check.netOf(pair(3, " coins 1", ""));
        CHECK.due("root, unlike at once", x.root(1), 0);
        CHECK.due("settled, unlike at once", x.settled(1), 3 + 12);
        CHECK.due("rounds, unlike at once", x.rounds(1), 1);
        CHECK.due("port(0, 0, 0)", x.port(0, 0, 0), 2);
        CHECK.due("port(1, 0, 0)", x.port(1, 0, 0), 1);
        x = Check.netOf(pair(2, " coins 01", " coins 001"));
        CHECK.due("root, unlike in the second", x.root(0), 0);
        CHECK.due("settled, both 0 first", x.settled(0), 2 + 6 + 10);
        CHECK.due("taken(0)", x.taken(0), 2);
        CHECK.due("taken(1)", x.taken(1), 2);
        x = Check.netOf(pair(2, " coins 10", " coins 11"));
        CHECK.due("root, both 1 first", x.root(0), 1);
        CHECK.due("settled, both 1 first", x.settled(0), 2 + 10 + 10);
        // 01 and 010: 0 0, 1 1, 0 0, 1 0.
        x = Check.netOf(pair(1, " coins 01", " coins 010"));
        CHECK.due("root, coins from the first again", x.root(0), 0);
        CHECK.due("rounds, coins from the first again", x.rounds(0), 4);
        CHECK.due("settled, coins from the first again", x.settled(0), 1 + 4 + 8 + 4 + 8);
        // 10000000 and 1000000: unlike in the eighth, 0 against 1.
        x = Check.netOf(pair(1, " coins 10000000", " coins 1000000"));
        CHECK.due("root, unlike in the eighth", x.root(0), 1);
        CHECK.due("rounds, unlike in the eighth", x.rounds(0), 8);
        CHECK.due("settled, unlike in the eighth", x.settled(0), 1 + 8 + 6 * 4 + 8);
    }

    private static void tenRoundsAlike() {
        CableElection x = Check.netOf(pair(1, "", ""));
        CHECK.due("root", x.root(0), 1);
        CHECK.due("settled", x.settled(0), 1 + 10 * 4);
        CHECK.due("rounds", x.rounds(0), 10);
        CHECK.due("taken", x.taken(0), 10);
        x = Check.netOf(pair(1, " coins 1", " coins 1"));
        CHECK.due("root", x.root(0), 1);
        CHECK.due("settled", x.settled(0), 1 + 10 * 8);
        // The tenth is the last that counts: 00000 and 00001, then 00 against 01.
        x = Check.netOf(pair(1, " coins 00001", " coins 00"));
        CHECK.due("rounds", x.rounds(0), 5);
        x = Check.netOf("bus wait 0 delay 0;node a ports 1 coins 0101;node b ports 1 coins 01;cable b 0 a 0 long 9;");
        CHECK.due("root", x.root(0), 1);
        CHECK.due("settled", x.settled(0), 9 + 5 * 20 + 5 * 24);
    }

    private static void lateCalls() {
        // a - b - c - d, 1, 5 and 2 long: b calls c at 1, c calls b at 2; the later one comes at 7.
        CableElection x = Check.netOf("bus wait 0 delay 0;node a ports 1;node b ports 2 coins 1;node c ports 2;node d ports 1;"
            + "cable a 0 b 0 long 1;cable b 1 c 0 long 5;cable c 1 d 0 long 2;");
        CHECK.due("called(1)", x.called(1), 1);
        CHECK.due("called(2)", x.called(2), 2);
        CHECK.due("root(3)", x.root(3), 1);
        CHECK.due("settled(3)", x.settled(3), 2 + 5 + 16);
        CHECK.due("rounds(0)", x.rounds(0), 1);
        CHECK.due("taken(0)", x.taken(0), 0);
        CHECK.due("taken(1)", x.taken(1), 1);
        CHECK.due("taken(2)", x.taken(2), 1);
        CHECK.due("taken(3)", x.taken(3), 0);
    }

    private static void forcedWaits() {
        CableElection x = Check.netOf("bus wait 5 delay 0;node a ports 1 force;node b ports 1;cable a 0 b 0 long 4;");
        CHECK.due("root, heard before the wait is over", x.root(0), 0);
        CHECK.due("settled", x.settled(0), 4);
        CHECK.due("called(0)", x.called(0), -1);
        x = Check.netOf("bus wait 3 delay 0;node a ports 1 force coins 1;node b ports 1;cable a 0 b 0 long 4;");
        CHECK.due("called(0), wait over first", x.called(0), 3);
        CHECK.due("settled, wait over first", x.settled(0), 7 + 14);
        x = Check.netOf("bus wait 0 delay 0;node a ports 1 force;node b ports 1;cable a 0 b 0 long 4;");
        CHECK.due("called(0), no wait", x.called(0), 0);
        // Inside: b is so from 2 on, and would call at 22; c's call is there at 9.
        x = Check.netOf("bus wait 20 delay 0;node a ports 1;node b ports 2 force;node c ports 1;cable a 0 b 0 long 2;cable b 1 c 0 long 9;");
        CHECK.due("root(2)", x.root(2), 1);
        CHECK.due("settled(2)", x.settled(2), 9);
        // Both are forced: they wait alike and call one another.
        x = Check.netOf("bus wait 20 delay 0;node a ports 1 force;node b ports 1 force;cable a 0 b 0 long 9;");
        CHECK.due("called(0)", x.called(0), 20);
        CHECK.due("called(1)", x.called(1), 20);
        CHECK.due("settled(1)", x.settled(1), 29 + 10 * 20);
    }

    private static void callThatComesAtTheSameTick() {
        // The call comes at 4, at the tick at which a would call: calls come first.
        CableElection x = Check.netOf("bus wait 4 delay 0;node a ports 1 force;node b ports 1;cable a 0 b 0 long 4;");
        CHECK.due("root(1)", x.root(1), 0);
        CHECK.due("settled(1)", x.settled(1), 4);
        CHECK.due("called(0)", x.called(0), -1);
        CHECK.due("rounds(0)", x.rounds(0), 0);
        // Both calls come to b at 3: it is never left with one alone.
        x = Check.netOf("bus wait 0 delay 0;node a ports 1;node b ports 2;node c ports 1;cable a 0 b 0 long 3;cable b 1 c 0 long 3;");
        CHECK.due("root(0)", x.root(0), 1);
        CHECK.due("settled(0)", x.settled(0), 3);
        CHECK.due("called(1)", x.called(1), -1);
    }

    private static void loops() {
        // A ring of a, b, c with a tail d - e, e forced; a node f alone beside it.
        CableElection x = Check.netOf("bus wait 6 delay 0;node a ports 3;node b ports 2;node c ports 2;node d ports 2;node e ports 1 force;node f ports 1;"
            + "cable a 0 b 0 long 1;cable b 1 c 0 long 1;cable c 1 a 1 long 1;cable a 2 d 0 long 2;cable d 1 e 0 long 3;");
        for (int node = 0; node < 5; node++) {
            CHECK.due("root in a loop", x.root(node), -1);
            CHECK.due("settled in a loop", x.settled(node), -1);
            CHECK.due("rounds in a loop", x.rounds(node), -1);
            CHECK.due("taken in a loop", x.taken(node), 0);
        }
        CHECK.due("root(5)", x.root(5), 5);
        CHECK.due("called(4)", x.called(4), 6);
        CHECK.due("called(3)", x.called(3), 9);
        CHECK.due("called(0)", x.called(0), -1);
        CHECK.due("port(4, 0, 0)", x.port(4, 0, 0), 1);
        CHECK.due("port(3, 1, 0)", x.port(3, 1, 0), 2);
        CHECK.due("port(3, 0, 0)", x.port(3, 0, 0), 1);
        CHECK.due("port(0, 2, 0)", x.port(0, 2, 0), 2);
        CHECK.due("port(0, 0, 0)", x.port(0, 0, 0), 3);
        CHECK.due("port(0, 1, 0)", x.port(0, 1, 0), 3);
        CHECK.due("count(8)", x.count(8), 1);
    }

    private static void parallelCables() {
        CableElection x = Check.netOf("bus wait 0 delay 0;node a ports 2;node b ports 2;cable a 0 b 1 long 1;cable a 1 b 0 long 2;");
        CHECK.due("root(0)", x.root(0), -1);
        CHECK.due("called(0)", x.called(0), -1);
        CHECK.due("port(0, 0, 0)", x.port(0, 0, 0), 3);
        CHECK.due("port(0, 0, 2)", x.port(0, 0, 2), 1);
        CHECK.due("port(0, 1, 3)", x.port(0, 1, 3), 2);
        CHECK.due("count(8)", x.count(8), 1);
    }
}
