/** Term II and promises 7 to 12: each sentence that names a boundary, on both sides of it. */
public final class CallEdgeTest {
    private static final int[] FAR = {Integer.MAX_VALUE, Integer.MIN_VALUE, 40, -40};
    private static final Check CHECK = new Check("CallEdgeTest");

    public static void main(String[] args) {
        busesByCables();
        asManyCablesAsNodes();
        loopsByBus();
        withoutACable();
        callComesByLength();
        callsComeFirst();
        forcedWaitsFromTheFirstTick();
        forcedInside();
        forcedOnesThatMeet();
        forcedAllOfTen();
        othersDoNotWait();
        childAndParent();
        roundsFromTheLaterCall();
        bitsUnlike();
        bitsAlike();
        bitsBeginAgain();
        tenthRound();
        behindTenRounds();
        greaterOne();
        portOfNone();
        portInALoop();
        rootAndSettled();
        calledOrNot();
        roundsOfABus();
        takenBits();
        noSuchNode();
        CHECK.close();
    }

    private static String two(int wait, String one, String other, int length) {
        return "bus wait " + wait + " delay 0;node a ports 1" + one + ";node b ports 1" + other + ";cable a 0 b 0 long " + length + ";";
    }

    private static void net(CableElection x, int buses, int loops) {
        CHECK.due("count(7)", x.count(7), buses);
        CHECK.due("count(8)", x.count(8), loops);
    }

    /** "BUSES: NODES that come to one another by CABLES." */
    private static void busesByCables() {
        net(Check.netOf("bus wait 0 delay 0;"), 0, 0);
        net(Check.netOf("bus wait 0 delay 0;node a ports 1;"), 1, 0);
        CableElection x = Check.netOf("bus wait 0 delay 0;node a ports 1;node b ports 1;node c ports 2;node d ports 1;"
            + "cable d 0 c 1 long 1;cable c 0 a 0 long 1;");
        // a and d have no cable of their own: they come to one another by c.
        net(x, 2, 0);
        CHECK.due("size(0)", x.size(0), 3);
        CHECK.due("size(1)", x.size(1), 1);
        CHECK.due("hops(0, 3)", x.hops(0, 3), 2);
    }

    /** "A LOOP: a BUS with as many CABLES as NODES, or more." */
    private static void asManyCablesAsNodes() {
        CableElection x = Check.netOf("bus wait 0 delay 0;node a ports 3;node b ports 3;");
        net(x, 2, 0);
        for (int port = 0; port < 3; port++) {
            x.plug(0, port, 1, port, 1);
            net(x, 1, port == 0 ? 0 : 1);
            CHECK.due("root(0) with " + (port + 1), x.root(0), port == 0 ? 1 : -1);
            CHECK.due("settled(0) with " + (port + 1), x.settled(0), port == 0 ? 1 + 10 * 4 : -1);
            CHECK.due("rounds(0) with " + (port + 1), x.rounds(0), port == 0 ? 10 : -1);
            CHECK.due("called(0) with " + (port + 1), x.called(0), port == 0 ? 0 : -1);
        }
        x = Check.netOf("bus wait 0 delay 0;node a ports 2;node b ports 2;node c ports 3;node d ports 1;"
            + "cable a 0 b 0 long 1;cable b 1 c 0 long 1;cable c 2 d 0 long 1;");
        net(x, 1, 0);
        CHECK.due("root(0) of three cables and four nodes", x.root(0) >= 0 ? 1 : 0, 1);
        x.plug(0, 1, 2, 1, 1);
        net(x, 1, 1);
        CHECK.due("root(3) of four cables and four nodes", x.root(3), -1);
    }

    /** A bus counts its own cables: those of others neither make it a loop nor keep it from being one. */
    private static void loopsByBus() {
        CableElection x = Check.netOf("bus wait 0 delay 0;node a ports 2;node b ports 2;node c ports 1;node d ports 1;node e ports 1;"
            + "cable b 0 d 0 long 1;cable b 1 e 0 long 1;");
        net(x, 3, 0);
        x = Check.netOf("bus wait 0 delay 0;node a ports 1;node b ports 2;node c ports 2;node d ports 1;cable b 0 c 0 long 1;cable b 1 c 1 long 1;");
        net(x, 3, 1);
        CHECK.due("root(0)", x.root(0), 0);
        CHECK.due("root(1)", x.root(1), -1);
        CHECK.due("root(2)", x.root(2), -1);
        CHECK.due("root(3)", x.root(3), 3);
    }

    /** "(one without a CABLE: at tick 0)": also if it is forced, and if its cable is gone. */
    private static void withoutACable() {
        CableElection x = Check.netOf(two(20, " force", "", 9) + "node c ports 4 force;");
        CHECK.due("root(2)", x.root(2), 2);
        CHECK.due("settled(2)", x.settled(2), 0);
        CHECK.due("called(2)", x.called(2), -1);
        CHECK.due("settled(0)", x.settled(0), 9);
        x.pull(0, 0);
        for (int node = 0; node < 2; node++) {
            CHECK.due("root(" + node + ") alone", x.root(node), node);
            CHECK.due("settled(" + node + ") alone", x.settled(node), 0);
            CHECK.due("called(" + node + ") alone", x.called(node), -1);
        }
    }

    /** "A CALL comes L ticks later, by the CABLE's length." */
    private static void callComesByLength() {
        for (int length = 1; length <= 9; length++) {
            CHECK.due("settled with " + length, Check.netOf(two(20, "", " force", length)).settled(0), length);
            CHECK.due("root with " + length, Check.netOf(two(20, "", " force", length)).root(0), 1);
        }
    }

    /** "CALLS that come then come; then each NODE": a call at the tick of one's own keeps one from calling. */
    private static void callsComeFirst() {
        for (int length = 1; length <= 9; length++) {
            for (int wait = length - 1; wait <= length + 1; wait++) {
                CableElection x = Check.netOf(two(wait, " force coins 1", "", length));
                boolean calls = wait < length;
                CHECK.due("called(1)", x.called(1), 0);
                CHECK.due("called(0), wait " + wait + " and long " + length, x.called(0), calls ? wait : -1);
                CHECK.due("settled(0), wait " + wait + " and long " + length, x.settled(0), calls ? wait + length + 2 * length + 6 : length);
                CHECK.due("rounds(0), wait " + wait + " and long " + length, x.rounds(0), calls ? 1 : 0);
                CHECK.due("root(1)", x.root(1), 0);
            }
        }
    }

    /** "a FORCED one W ticks behind the first tick at which it was so": 0 for one with a single cable. */
    private static void forcedWaitsFromTheFirstTick() {
        for (int wait : new int[] {0, 1, 20}) {
            CableElection x = Check.netOf(two(wait, " force", " force coins 1", 9));
            CHECK.due("called(0)", x.called(0), wait);
            CHECK.due("called(1)", x.called(1), wait);
            CHECK.due("settled(0)", x.settled(0), wait + 9 + 24);
        }
    }

    /** Calls come to m at 1, 4 and 9: all but one have called from 4 on, not from 1 on. */
    private static String star(int wait) {
        return "bus wait " + wait + " delay 0;node m ports 4 force coins 1;node a ports 1;node b ports 1;node c ports 1;"
            + "cable m 1 a 0 long 1;cable m 2 b 0 long 9;cable m 3 c 0 long 4;";
    }

    /** "W ticks behind the first tick at which it was so (if it is not ROOT till then)". */
    private static void forcedInside() {
        for (int wait = 0; wait <= 6; wait++) {
            CableElection x = Check.netOf(star(wait));
            boolean calls = 4 + wait < 9;
            CHECK.due("called(0), wait " + wait, x.called(0), calls ? 4 + wait : -1);
            CHECK.due("root(0), wait " + wait, x.root(0), 0);
            CHECK.due("settled(0), wait " + wait, x.settled(0), calls ? 4 + wait + 9 + 24 : 9);
            CHECK.due("taken(2), wait " + wait, x.taken(2), calls ? 1 : 0);
        }
    }

    /** Two forced ones that are so at unlike ticks: the later one hears the other, and is root. */
    private static void forcedOnesThatMeet() {
        String ends = ";node c ports 1;cable a 0 b 0 long 1;cable b 1 c 0 long 3;";
        CableElection x = Check.netOf("bus wait 5 delay 0;node a ports 1 force;node b ports 2 force" + ends);
        // c calls at 0; b is so from 3 on and would call at 8; a calls at 5.
        CHECK.due("called(0)", x.called(0), 5);
        CHECK.due("called(1)", x.called(1), -1);
        CHECK.due("root(2)", x.root(2), 1);
        CHECK.due("settled(2)", x.settled(2), 6);
        x = Check.netOf("bus wait 5 delay 0;node a ports 1 force;node b ports 2" + ends);
        // b calls a at 3: that comes at 4, ahead of 5.
        CHECK.due("called(1)", x.called(1), 3);
        CHECK.due("called(0)", x.called(0), -1);
        CHECK.due("root(2)", x.root(2), 0);
        CHECK.due("settled(2)", x.settled(2), 4);
    }

    /** Ten in a row, all forced, each cable one longer than the one before: all that happens, happens at ticks of its own. */
    private static void forcedAllOfTen() {
        StringBuilder text = new StringBuilder("bus wait 20 delay 0;");
        for (char name = 'a'; name <= 'j'; name++) {
            text.append("node ").append(name).append(" ports 2 force;");
        }
        for (int i = 0; i < 9; i++) {
            text.append("cable ").append((char) ('a' + i)).append(" 1 ").append((char) ('b' + i)).append(" 0 long ").append(i + 1).append(";");
        }
        CableElection x = Check.netOf(text.toString());
        // f has g's call at 110 and would call at 130, but has e's at 115.
        int[] want = {20, 41, 63, 86, 110, -1, 104, 77, 49, 20};
        for (int node = 0; node < 10; node++) {
            CHECK.due("called(" + node + ")", x.called(node), want[node]);
            CHECK.due("root(" + node + ")", x.root(node), 5);
            CHECK.due("settled(" + node + ")", x.settled(node), 115);
            CHECK.due("rounds(" + node + ")", x.rounds(node), 0);
        }
        for (int node = 0; node < 10; node++) {
            x.force(node, 0);
        }
        // a's side: b 1, c 3, d 6, e 10, f 15, g 21; j's side: i 9, h 17, g 24.
        int[] then = {0, 1, 3, 6, 10, 15, 21, 17, 9, 0};
        for (int node = 0; node < 10; node++) {
            CHECK.due("called(" + node + "), not forced", x.called(node), then[node]);
        }
    }

    /** W is for forced ones alone. */
    private static void othersDoNotWait() {
        CableElection x = Check.netOf(two(20, "", "", 3));
        CHECK.due("called(0)", x.called(0), 0);
        CHECK.due("called(1)", x.called(1), 0);
        CHECK.due("settled(0)", x.settled(0), 3 + 10 * 8);
    }

    /** "A PORT by which a NODE was CALLED, and did not CALL itself, is one to a CHILD, at the other end to its PARENT." */
    private static void childAndParent() {
        CableElection x = Check.netOf(star(20));
        CHECK.due("port(0, 0, 0)", x.port(0, 0, 0), 0);
        for (int port = 1; port < 4; port++) {
            CHECK.due("port(0, " + port + ", 0)", x.port(0, port, 0), 2);
            CHECK.due("port(" + port + ", 0, 0)", x.port(port, 0, 0), 1);
        }
        // "The other one is its CHILD then": at the cable by which both called.
        x = Check.netOf(two(0, " coins 1", "", 2));
        CHECK.due("port(0, 0, 0) of the one with 1", x.port(0, 0, 0), 2);
        CHECK.due("port(1, 0, 0) of the one with 0", x.port(1, 0, 0), 1);
        x = Check.netOf(two(0, "", " coins 1", 2));
        CHECK.due("port(0, 0, 0) of the one with 0", x.port(0, 0, 0), 1);
        CHECK.due("port(1, 0, 0) of the one with 1", x.port(1, 0, 0), 2);
        CHECK.due("parent(0)", x.parent(0), 1);
        CHECK.due("parent(1)", x.parent(1), -1);
    }

    /** "From the tick on at which the later one of both CALLS has come": whichever of both it is. */
    private static void roundsFromTheLaterCall() {
        CHECK.due("settled(0), a's comes later", Check.netOf(two(3, " force coins 1", "", 4)).settled(0), 3 + 4 + 14);
        CHECK.due("settled(0), b's comes later", Check.netOf(two(3, " coins 1", " force", 4)).settled(0), 3 + 4 + 14);
        CHECK.due("settled(0), both at once", Check.netOf(two(3, " coins 1", "", 4)).settled(0), 4 + 14);
    }

    /** "if they are unlike, the one with 1 is ROOT, 2 L and 6 ticks later". */
    private static void bitsUnlike() {
        for (int length : new int[] {1, 9}) {
            CableElection x = Check.netOf(two(0, " coins 1", " coins 0", length));
            CHECK.due("root(0)", x.root(0), 0);
            CHECK.due("settled(0)", x.settled(0), length + 2 * length + 6);
            CHECK.due("rounds(0)", x.rounds(0), 1);
            x = Check.netOf(two(0, " coins 0", " coins 1", length));
            CHECK.due("root(0)", x.root(0), 1);
            CHECK.due("settled(0)", x.settled(0), length + 2 * length + 6);
        }
    }

    /** "else another ROUND, 2 L and 2 ticks later, if both have 0, 2 L and 6, if both have 1". */
    private static void bitsAlike() {
        for (int length : new int[] {1, 9}) {
            CableElection x = Check.netOf(two(0, " coins 01", " coins 00", length));
            CHECK.due("settled(0), both 0 first", x.settled(0), length + 2 * length + 2 + 2 * length + 6);
            CHECK.due("rounds(0)", x.rounds(0), 2);
            x = Check.netOf(two(0, " coins 11", " coins 10", length));
            CHECK.due("settled(0), both 1 first", x.settled(0), length + 2 * length + 6 + 2 * length + 6);
            CHECK.due("root(0)", x.root(0), 0);
        }
    }

    /** "(behind the last one the first again)": by each one's own number of bits. */
    private static void bitsBeginAgain() {
        // 1 1, 0 0, then the first again: 1 against 0.
        CableElection x = Check.netOf(two(0, " coins 10", " coins 100", 1));
        CHECK.due("root(0)", x.root(0), 0);
        CHECK.due("rounds(0)", x.rounds(0), 3);
        CHECK.due("settled(0)", x.settled(0), 1 + 8 + 4 + 8);
        // 0 all the time, against the last of eight.
        x = Check.netOf(two(0, " coins 0", " coins 00000001", 1));
        CHECK.due("root(0)", x.root(0), 1);
        CHECK.due("rounds(0)", x.rounds(0), 8);
        CHECK.due("settled(0)", x.settled(0), 1 + 7 * 4 + 8);
        // The eighth: the last of eight against the first of seven again.
        x = Check.netOf(two(0, " coins 01111111", " coins 0111111", 1));
        CHECK.due("rounds(0), the eighth is unlike", x.rounds(0), 8);
        CHECK.due("root(0)", x.root(0), 0);
        // Eight bits alike are begun again, both, and stay alike.
        x = Check.netOf(two(0, " coins 01111111", " coins 01111111", 1));
        CHECK.due("rounds(0)", x.rounds(0), 10);
        CHECK.due("settled(0)", x.settled(0), 1 + 4 + 7 * 8 + 4 + 8);
    }

    /** The tenth round is one like the others: 010 010 010 0 against 01001001 01. */
    private static void tenthRound() {
        CableElection x = Check.netOf(two(0, " coins 01001001", " coins 010", 1));
        CHECK.due("root(0)", x.root(0), 0);
        CHECK.due("rounds(0)", x.rounds(0), 10);
        CHECK.due("settled(0)", x.settled(0), 1 + 6 * 4 + 3 * 8 + 8);
        CHECK.due("taken(0)", x.taken(0), 10);
        CHECK.due("taken(1)", x.taken(1), 10);
    }

    /** "Behind 10 ROUNDS alike": no eleventh, though 0101001 has 1 there and 01010 has 0. */
    private static void behindTenRounds() {
        CableElection x = Check.netOf(two(0, " coins 0101001", " coins 01010", 1));
        CHECK.due("root(0)", x.root(0), 1);
        CHECK.due("rounds(0)", x.rounds(0), 10);
        CHECK.due("taken(0)", x.taken(0), 10);
        // "(at the tick at which the next one would begin)".
        CHECK.due("settled(0)", x.settled(0), 1 + 6 * 4 + 4 * 8);
        CHECK.due("settled(0), all 0", Check.netOf(two(0, "", "", 9)).settled(0), 9 + 10 * 20);
        CHECK.due("settled(0), all 1", Check.netOf(two(0, " coins 1", " coins 1", 9)).settled(0), 9 + 10 * 24);
    }

    /** "the greater one is ROOT": of the two, not of the bus, and however the cable is told. */
    private static void greaterOne() {
        CableElection x = Check.netOf("bus wait 0 delay 0;node a ports 2;node b ports 2;node c ports 1;node d ports 1;"
            + "cable d 0 a 0 long 1;cable b 1 a 1 long 1;cable c 0 b 0 long 1;");
        CHECK.due("root(0)", x.root(0), 1);
        CHECK.due("parent(0)", x.parent(0), 1);
        x = Check.netOf("bus wait 0 delay 0;node a ports 2;node b ports 2;node c ports 1;node d ports 1;"
            + "cable d 0 a 0 long 1;cable a 1 b 1 long 1;cable c 0 b 0 long 1;");
        CHECK.due("root(0)", x.root(0), 1);
        CHECK.due("settled(0)", x.settled(0), 1 + 1 + 10 * 4);
    }

    /** Promise 7: "(NONE each: no CABLE). -2: there are none such." */
    private static void portOfNone() {
        CableElection x = Check.netOf("bus wait 0 delay 0;node a ports 4;node b ports 1;cable a 3 b 0 long 6;");
        int[] cabled = {-2, 1, 1, 0, 6, -2};
        int[] free = {-2, 0, -1, -1, -1, -2};
        for (int what = -1; what <= 4; what++) {
            CHECK.due("port(0, 0, " + what + ")", x.port(0, 0, what), free[what + 1]);
            CHECK.due("port(0, 3, " + what + ")", x.port(0, 3, what), what == 0 ? 1 : cabled[what + 1]);
            CHECK.due("port(0, 4, " + what + ")", x.port(0, 4, what), -2);
            CHECK.due("port(0, -1, " + what + ")", x.port(0, -1, what), -2);
            CHECK.due("port(1, 1, " + what + ")", x.port(1, 1, what), -2);
            CHECK.due("port(2, 0, " + what + ")", x.port(2, 0, what), -2);
            CHECK.due("port(-1, 3, " + what + ")", x.port(-1, 3, what), -2);
        }
        CHECK.due("port(1, 0, 2)", x.port(1, 0, 2), 3);
        for (int far : FAR) {
            CHECK.due("port(" + far + ", 0, 0)", x.port(far, 0, 0), -2);
            CHECK.due("port(0, " + far + ", 0)", x.port(0, far, 0), -2);
            CHECK.due("port(0, 0, " + far + ")", x.port(0, 0, far), -2);
        }
        // A whole net's number of ports and one more would be another node's, were it not looked at.
        CHECK.due("port(0, 5, 0)", x.port(0, 5, 0), -2);
        CHECK.due("port(1, -1, 0)", x.port(1, -1, 0), -2);
    }

    /** A ring a, b, c with d behind c and e behind d. */
    private static final String TAILED = "bus wait 4 delay 0;node a ports 2;node b ports 3;node c ports 3;node d ports 2;node e ports 1 force;"
        + "cable a 0 b 0 long 1;cable b 1 c 0 long 2;cable c 1 a 1 long 3;cable c 2 d 0 long 5;cable d 1 e 0 long 6;";

    /** Promise 7: "3 neither (in a LOOP)": the ring's own ports, not those of what hangs on it. */
    private static void portInALoop() {
        CableElection x = Check.netOf(TAILED);
        CHECK.due("port(0, 0, 0)", x.port(0, 0, 0), 3);
        CHECK.due("port(0, 1, 0)", x.port(0, 1, 0), 3);
        CHECK.due("port(1, 2, 0)", x.port(1, 2, 0), 0);
        CHECK.due("port(2, 1, 0)", x.port(2, 1, 0), 3);
        CHECK.due("port(2, 2, 0)", x.port(2, 2, 0), 2);
        CHECK.due("port(3, 0, 0)", x.port(3, 0, 0), 1);
        CHECK.due("port(3, 1, 0)", x.port(3, 1, 0), 2);
        CHECK.due("port(4, 0, 0)", x.port(4, 0, 0), 1);
        CHECK.due("port(2, 2, 1)", x.port(2, 2, 1), 3);
        CHECK.due("port(2, 2, 3)", x.port(2, 2, 3), 5);
        CHECK.due("parent(3), NONE all the same", x.parent(3), -1);
    }

    /** Promises 8, 9: "NONE: it has a LOOP". */
    private static void rootAndSettled() {
        CableElection x = Check.netOf(TAILED);
        for (int node = 0; node < 5; node++) {
            CHECK.due("root(" + node + ") in a loop", x.root(node), -1);
            CHECK.due("settled(" + node + ") in a loop", x.settled(node), -1);
        }
        x.pull(0, 0);
        // The ring is open: c has b's at 2 and a's at 3 and calls d; d has that at 8 and calls e, who called at 4.
        for (int node = 0; node < 5; node++) {
            CHECK.due("root(" + node + ")", x.root(node), 4);
            CHECK.due("settled(" + node + ")", x.settled(node), 8 + 6 + 10 * 14);
        }
    }

    /** Promise 10: "(in a LOOP, too). NONE: it does not". */
    private static void calledOrNot() {
        CableElection x = Check.netOf(TAILED);
        int[] want = {-1, -1, -1, 10, 4};
        for (int node = 0; node < 5; node++) {
            CHECK.due("called(" + node + ") in a loop", x.called(node), want[node]);
        }
        x.pull(0, 0);
        int[] then = {0, 0, 3, 8, 4};
        for (int node = 0; node < 5; node++) {
            CHECK.due("called(" + node + ")", x.called(node), then[node]);
        }
    }

    /** Promise 11: "(0: there is none). NONE: a LOOP": for each node of the bus, and no other. */
    private static void roundsOfABus() {
        CableElection x = Check.netOf("bus wait 0 delay 0;node a ports 1;node b ports 2 coins 01;node c ports 2;node d ports 1;node e ports 1;"
            + "node f ports 2;node g ports 2;node h ports 1;node i ports 2;node j ports 1;cable a 0 b 0 long 1;cable b 1 c 0 long 1;cable c 1 d 0 long 1;"
            + "cable f 0 g 0 long 1;cable f 1 g 1 long 1;cable h 0 i 0 long 2;cable i 1 j 0 long 2;");
        int[] rounds = {2, 2, 2, 2, 0, -1, -1, 0, 0, 0};
        int[] taken = {0, 2, 2, 0, 0, 0, 0, 0, 0, 0};
        for (int node = 0; node < 10; node++) {
            CHECK.due("rounds(" + node + ")", x.rounds(node), rounds[node]);
            CHECK.due("taken(" + node + ")", x.taken(node), taken[node]);
        }
    }

    /** Promise 12: none but by a contention, and by the latest net alone. */
    private static void takenBits() {
        CableElection x = Check.netOf(two(0, " coins 1", "", 1));
        CHECK.due("taken(0)", x.taken(0), 1);
        CHECK.due("taken(1)", x.taken(1), 1);
        x.rootBy(0);
        CHECK.due("taken(0) behind rootBy(0)", x.taken(0), 1);
        x.pull(0, 0);
        CHECK.due("taken(0) alone", x.taken(0), 0);
        CHECK.due("taken(1) alone", x.taken(1), 0);
        x.undo();
        CHECK.due("taken(0) again", x.taken(0), 1);
    }

    /** Promises 8 to 12: "-2: there is no such NODE": in a net with and without a loop, and with none. */
    private static void noSuchNode() {
        askAbsent(Check.netOf(TAILED), 5);
        askAbsent(Check.netOf(two(0, "", "", 1)), 2);
        askAbsent(Check.netOf(TextTest.tenNodes()), 10);
        askAbsent(Check.netOf("bus wait 0 delay 0;"), 0);
        askAbsent(new CableElection(), 0);
        CableElection x = Check.netOf(TAILED);
        Check.tell(x, two(0, "", "", 1));
        x.net();
        // Those of the net before are gone.
        askAbsent(x, 2);
    }

    private static void askAbsent(CableElection x, int nodes) {
        for (int i = 0; i < FAR.length + 2; i++) {
            int node = i == 0 ? -1 : i == 1 ? nodes : FAR[i - 2];
            CHECK.due("root(" + node + ")", x.root(node), -2);
            CHECK.due("settled(" + node + ")", x.settled(node), -2);
            CHECK.due("called(" + node + ")", x.called(node), -2);
            CHECK.due("rounds(" + node + ")", x.rounds(node), -2);
            CHECK.due("taken(" + node + ")", x.taken(node), -2);
        }
        if (nodes > 0) {
            for (int node : new int[] {0, nodes - 1}) {
                CHECK.due("root(" + node + ") is there", x.root(node) == -2 ? 1 : 0, 0);
                CHECK.due("called(" + node + ") is there", x.called(node) == -2 ? 1 : 0, 0);
                CHECK.due("taken(" + node + ") is there", x.taken(node) == -2 ? 1 : 0, 0);
            }
        }
    }
}
