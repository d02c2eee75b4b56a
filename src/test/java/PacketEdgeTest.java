/** Term V and promises 25 to 27: each sentence that names a boundary, on both sides of it. */
public final class PacketEdgeTest {
    private static final Check CHECK = new Check("PacketEdgeTest");

    /** Eleven packets, a chain so far: each one the parent of the one before. */
    private static final String ELEVEN = "p;" + "pc;".repeat(10);

    public static void main(String[] args) {
        noneAtAll();
        twelveAtMost();
        twelveOfFourLetters();
        oneToFourLetters();
        lettersOfWords();
        parentOnceAtMost();
        tokensThatAreNoWord();
        signThatLacks();
        moreChildrenThanThereAre();
        noneLeftOver();
        wordsBehindTheRoot();
        noRootAtTheEnd();
        leastFaultOfOnePlace();
        firstFaultByPlace();
        latestAtTheLast();
        manyWithoutAParent();
        builtBounds();
        builtOfTheRoot();
        faultyPacketsChangeNothing();
        toldStayByOtherCalls();
        letterByLetter();
        packetByPacket();
        nothingOfFormerPacketsStays();
        unlikeBounds();
        CHECK.close();
    }

    /** V: "{PACKET ;}", promise 25: "(0: none)": those told before are gone. */
    private static void noneAtAll() {
        for (String blank : new String[] {"", " ", "\n \n", " ".repeat(700)}) {
            CableElection x = CHECK.acceptedPackets("p;c;", 2);
            CHECK.due("built(1, 3)", x.built(1, 3), 1);
            Check.tell(x, blank);
            CHECK.due("packets()", x.packets(), 0);
            CHECK.due("fault(0)", x.fault(0), 0);
            CHECK.due("fault(1)", x.fault(1), -1);
            CHECK.due("built(0, 0)", x.built(0, 0), -2);
        }
    }

    /** V: "12 at most"; "3 a thirteenth". */
    private static void twelveAtMost() {
        CHECK.acceptedPackets("n;", 1);
        CableElection x = CHECK.acceptedPackets(ELEVEN + "c;", 12);
        CHECK.due("built(11, 0)", x.built(11, 0), -1);
        CHECK.due("built(12, 0)", x.built(12, 0), -2);
        CHECK.due("built(0, 4)", x.built(0, 4), 11);
        CHECK.refusedPacketsFrom(ELEVEN + "pc;", "c;", 3);
        CHECK.refusedPacketsFrom(ELEVEN + "pc;", "p;", 3);
        CHECK.refusedPacketsFrom("p;".repeat(12), "p;", 3);
        CHECK.refusedPacketsFrom("p;".repeat(12), "", 4);
    }

    /** As much as packets can be: twelve, each with four letters. */
    private static void twelveOfFourLetters() {
        CableElection x = CHECK.acceptedPackets("nnnp;" + "ncnp;".repeat(10) + "nnnc;", 12);
        for (int i = 0; i < 11; i++) {
            node(x, i, i + 1, 3, i == 10 ? 3 : 1, i == 0 ? 0 : 1, 11 - i);
        }
        node(x, 11, -1, -1, -1, 1, 0);
    }

    /** V: "1 .. 4 letters". */
    private static void oneToFourLetters() {
        CHECK.acceptedPackets("n;", 1);
        CHECK.acceptedPackets("nnnn;", 1);
        CHECK.acceptedPackets("p;p;p;p;cccc;", 5);
        CHECK.refusedPacketsFrom("", "nnnnn;", 1);
        CHECK.refusedPacketsFrom("p;p;p;p;", "ccccn;", 1);
        CHECK.refusedPacketsFrom("", "nnnnp;", 1);
        CHECK.refusedPacketsFrom("", "n".repeat(256) + ";", 1);
    }

    /** V: "words of n, p, c". */
    private static void lettersOfWords() {
        for (char sign = 'a'; sign <= 'z'; sign++) {
            if (sign != 'n' && sign != 'p' && sign != 'c') {
                CHECK.refusedPacketsFrom("", sign + ";", 1);
                CHECK.refusedPacketsFrom("", "n" + sign + ";", 1);
                CHECK.refusedPacketsFrom("p;", sign + "c;", 1);
            }
        }
        CHECK.refusedPacketsFrom("", "N;", 1);
        CHECK.refusedPacketsFrom("n", "N;", 1);
        CHECK.acceptedPackets("np;nc;", 2);
    }

    /** V: "p once at most". */
    private static void parentOnceAtMost() {
        CHECK.acceptedPackets("p;c;", 2);
        CHECK.acceptedPackets("nnnp;c;", 2);
        for (String word : new String[] {"pp", "ppn", "pnp", "npnp", "pppp"}) {
            CHECK.refusedPacketsFrom("", word + ";c;", 1);
        }
    }

    /** V: "1 no such word": anything else that stands for one, blanks aside. */
    private static void tokensThatAreNoWord() {
        CHECK.acceptedPackets(" \np ;\n\n c\n; ", 2);
        for (String sign : new String[] {";", "0", "7;", ".", "\t", "\r", "\0", String.valueOf((char) 255)}) {
            CHECK.refusedPacketsFrom("", sign, 1);
            CHECK.refusedPacketsFrom("p; ", sign, 1);
            CHECK.refusedPacketsFrom("p;c;", sign, 1);
        }
    }

    /** V: "a sign ; that lacks": at what stands there instead, or at the end. */
    private static void signThatLacks() {
        CHECK.refusedPacketsFrom("n", "", 1);
        CHECK.refusedPacketsFrom("n \n", "", 1);
        CHECK.refusedPacketsFrom("p;c", "", 1);
        CHECK.refusedPacketsFrom("p ", "c;", 1);
        CHECK.refusedPacketsFrom("p", "1;", 1);
        CHECK.refusedPacketsFrom("p", ":", 1);
        CHECK.refusedPacketsFrom("p ", "x", 1);
        CHECK.refusedPacketsFrom("n" + " ".repeat(699), "", 1);
    }

    /** V: "2 one with more c than there are NODES without a PARENT so far". */
    private static void moreChildrenThanThereAre() {
        CHECK.refusedPacketsFrom("", "c;", 2);
        CHECK.refusedPacketsFrom("", "pc;", 2);
        CHECK.acceptedPackets("p;c;", 2);
        CHECK.refusedPacketsFrom("p;", "cc;", 2);
        CHECK.refusedPacketsFrom("p;", "pcc;", 2);
        CHECK.acceptedPackets("p;p;pcc;c;", 4);
        CHECK.refusedPacketsFrom("p;p;", "pccc;", 2);
        // Those that have a parent by now do not count any more, and one that is told does.
        CHECK.refusedPacketsFrom("p;p;pcc;", "cc;", 2);
        CHECK.acceptedPackets("p;p;pc;cc;", 4);
        CHECK.refusedPacketsFrom("p;p;pc;", "ccc;", 2);
    }

    /** V: "2 .. one without p that leaves some over". */
    private static void noneLeftOver() {
        CHECK.acceptedPackets("n;", 1);
        CHECK.refusedPacketsFrom("p;", "n;", 2);
        CHECK.acceptedPackets("p;p;cc;", 3);
        CHECK.refusedPacketsFrom("p;p;", "c;", 2);
        CHECK.acceptedPackets("p;p;p;p;cccc;", 5);
        CHECK.refusedPacketsFrom("p;p;p;p;p;", "cccc;", 2);
        // With p it may leave as many as there are.
        CHECK.acceptedPackets("p;p;p;pn;pcc;ccc;", 6);
    }

    /** V: "3 .. a word behind the one without p": of which 2 is told ahead of 3, the root being without a parent. */
    private static void wordsBehindTheRoot() {
        CHECK.acceptedPackets("n;", 1);
        CHECK.refusedPacketsFrom("n;", "p;", 3);
        CHECK.refusedPacketsFrom("n;", "p", 3);
        CHECK.refusedPacketsFrom("n;", "pc;", 3);
        CHECK.refusedPacketsFrom("n;", "c;", 3);
        CHECK.refusedPacketsFrom("p;c;", "np;", 3);
        CHECK.refusedPacketsFrom("n;", "n;", 2);
        CHECK.refusedPacketsFrom("n;", "cc;", 2);
        CHECK.refusedPacketsFrom("n;", "pcc;", 2);
        CHECK.refusedPacketsFrom(ELEVEN + "c;", "p;", 3);
        CHECK.refusedPacketsFrom(ELEVEN + "c;", "n;", 2);
    }

    /** V: "4 at the end, if there is none else: no PACKET without p, but some." */
    private static void noRootAtTheEnd() {
        CHECK.acceptedPackets("", 0);
        CHECK.refusedPacketsFrom("p;", "", 4);
        CHECK.refusedPacketsFrom("p;pc;", "", 4);
        CHECK.refusedPacketsFrom("p; \n", "", 4);
        CHECK.refusedPacketsFrom(ELEVEN, "", 4);
        CHECK.acceptedPackets(ELEVEN + "c;", 12);
        // Another fault is told in its place, at the end, too.
        CHECK.refusedPacketsFrom("p;p", "", 1);
        CHECK.refusedPacketsFrom("p;", "?", 1);
    }

    /** Of one place the least: 1 ahead of 2, 2 ahead of 3. */
    private static void leastFaultOfOnePlace() {
        CHECK.refusedPacketsFrom("", "ccccc;", 1);
        CHECK.refusedPacketsFrom("", "cpp;", 1);
        CHECK.refusedPacketsFrom("n;", "x;", 1);
        CHECK.refusedPacketsFrom("n;", "pp;", 1);
        CHECK.refusedPacketsFrom("p;".repeat(12), "x;", 1);
        CHECK.refusedPacketsFrom("p;".repeat(12), "n;", 2);
        CHECK.refusedPacketsFrom("p;".repeat(12), "cccc;", 2);
        CHECK.refusedPacketsFrom(ELEVEN + "pc;", "pcc;", 2);
        CHECK.refusedPacketsFrom(ELEVEN + "pc;", "n;", 2);
    }

    /** The first by its place, whatever comes behind it. */
    private static void firstFaultByPlace() {
        CHECK.refusedPacketsFrom("", "pc;x;", 2);
        CHECK.refusedPacketsFrom("n;", "p;x;cccc;", 3);
        CHECK.refusedPacketsFrom("p;", "x;n;", 1);
        CHECK.refusedPacketsFrom("p;", "n", 2);
    }

    private static void node(CableElection x, int i, int... want) {
        for (int what = 0; what < 5; what++) {
            CHECK.due("built(" + i + ", " + what + ")", x.built(i, what), want[what]);
        }
    }

    /** V: "the PARENT of the k latest NODES without one: the latest at its last c". */
    private static void latestAtTheLast() {
        CableElection x = CHECK.acceptedPackets("p;np;nnp;cpnc;cnc;", 5);
        // 3 takes 2 and 1, 2 at its port 3; 4 takes 3 and 0.
        node(x, 0, 4, 0, 0, 0, 1);
        node(x, 1, 3, 1, 0, 0, 2);
        node(x, 2, 3, 2, 3, 0, 2);
        node(x, 3, 4, 1, 2, 2, 1);
        node(x, 4, -1, -1, -1, 2, 0);
        x = CHECK.acceptedPackets("p;p;p;p;cccc;", 5);
        for (int i = 0; i < 4; i++) {
            node(x, i, 4, 0, i, 0, 1);
        }
        node(x, 4, -1, -1, -1, 4, 0);
    }

    /** V: "NODES without a PARENT so far": as many as eight at once, and the latest of them first. */
    private static void manyWithoutAParent() {
        CableElection x = CHECK.acceptedPackets("p;".repeat(8) + "ccpc;pccc;cccc;", 11);
        int[] parent = {10, 10, 10, 9, 9, 8, 8, 8, 9, 10, -1};
        int[] port = {0, 1, 2, 1, 2, 0, 1, 3, 3, 3, -1};
        int[] depth = {1, 1, 1, 2, 2, 3, 3, 3, 2, 1, 0};
        for (int i = 0; i < 11; i++) {
            node(x, i, parent[i], i == 10 ? -1 : i == 8 ? 2 : 0, port[i], i < 8 ? 0 : i == 10 ? 4 : 3, depth[i]);
        }
        CHECK.refusedPacketsFrom("p;".repeat(11), "cccc;", 2);
        CHECK.refusedPacketsFrom("p;".repeat(8) + "pccc;pccc;", "ccc;", 2);
    }

    /** Promise 26: "-2: there are none such": of i and of what. */
    private static void builtBounds() {
        CableElection x = CHECK.acceptedPackets("p;c;", 2);
        for (int what = 0; what < 5; what++) {
            CHECK.due("built(0, " + what + ") is there", x.built(0, what) == -2 ? 1 : 0, 0);
            CHECK.due("built(1, " + what + ") is there", x.built(1, what) == -2 ? 1 : 0, 0);
            CHECK.due("built(2, " + what + ")", x.built(2, what), -2);
            CHECK.due("built(-1, " + what + ")", x.built(-1, what), -2);
            CHECK.due("built(max, " + what + ")", x.built(Integer.MAX_VALUE, what), -2);
            CHECK.due("built(min, " + what + ")", x.built(Integer.MIN_VALUE, what), -2);
        }
        for (int what : new int[] {-1, 5, Integer.MAX_VALUE, Integer.MIN_VALUE}) {
            CHECK.due("built(0, " + what + ")", x.built(0, what), -2);
            CHECK.due("built(2, " + what + ")", x.built(2, what), -2);
        }
        CHECK.due("built(0, 0), none told", new CableElection().built(0, 0), -2);
        // Fewer than before: those behind are gone.
        CHECK.due("built(11, 3)", toldTwice(ELEVEN + "c;", "p;c;").built(11, 3), -2);
        CHECK.due("built(2, 3)", toldTwice(ELEVEN + "c;", "p;c;").built(2, 3), -2);
        CHECK.due("built(1, 3)", toldTwice(ELEVEN + "c;", "p;c;").built(1, 3), 1);
    }

    private static CableElection toldTwice(String one, String other) {
        CableElection x = CHECK.acceptedPackets(one, one.split(";").length);
        Check.tell(x, other);
        CHECK.due("packets()", x.packets(), other.split(";").length);
        return x;
    }

    /** Promise 26: "(NONE: ROOT)", "(NONE likewise)". */
    private static void builtOfTheRoot() {
        node(CHECK.acceptedPackets("n;", 1), 0, -1, -1, -1, 0, 0);
        node(CHECK.acceptedPackets("p;nnnc;", 2), 1, -1, -1, -1, 1, 0);
        // A root that was a child before it was told again has no parent left over.
        node(toldTwice("p;c;", "n;"), 0, -1, -1, -1, 0, 0);
        node(toldTwice("p;p;cc;", "p;c;"), 1, -1, -1, -1, 1, 0);
    }

    private static final String NET = "bus wait 0 delay 0;node a ports 2;node b ports 3;node c ports 1;cable a 0 b 0 long 1;cable b 2 c 0 long 1;";

    /** Promise 25: "-4: a FAULT, and those told stay": and all else, but the tape. */
    private static void faultyPacketsChangeNothing() {
        Check.Calls before = x -> {
            Check.tell(x, NET);
            x.net();
            Check.tell(x, "pn;p;cnc;");
            x.packets();
            x.pull(0, 0);
            x.undo();
            x.force(2, 1);
        };
        for (String text : new String[] {"p;", "p;p;p;p", "nn;p;", "n;n;", "p;p;p;cccc;", "?", "p;".repeat(13), "c;"}) {
            CHECK.nothingHappens("faulty packets()", before, x -> {
                Check.tell(x, text);
                CHECK.due("packets()", x.packets(), -4);
                CHECK.due("count(6)", x.count(6), 0);
            });
        }
    }

    /** Promise 26: "as the latest PACKETS have it": no net, no act makes others of them. */
    private static void toldStayByOtherCalls() {
        CableElection x = CHECK.acceptedPackets("p;cnnn;", 2);
        Check.tell(x, NET);
        x.net();
        node(x, 0, 1, 0, 0, 0, 1);
        x.pull(0, 0);
        x.anew();
        x.net();
        node(x, 1, -1, -1, -1, 1, 0);
    }

    private static void unlike(CableElection x, int node, String told, int want) {
        Check.tell(x, told);
        CHECK.due("packets() of " + told, x.packets() >= 0 ? 1 : 0, 1);
        CHECK.due("unlike(" + node + ") behind " + told, x.unlike(node), want);
    }

    /** Promise 27: "a letter more likewise": on either side. */
    private static void letterByLetter() {
        CableElection x = Check.netOf("bus wait 0 delay 0;node a ports 4;node b ports 1;");
        unlike(x, 0, "nnnn;", 0);
        unlike(x, 0, "nnn;", 1);
        unlike(x, 0, "n;", 3);
        unlike(x, 1, "n;", 0);
        unlike(x, 1, "nn;", 1);
        unlike(x, 1, "nnnn;", 3);
        x = Check.netOf("bus wait 0 delay 0;node a ports 1;node b ports 1;cable a 0 b 0 long 1;");
        // a 0: p, b 1: c.
        unlike(x, 0, "p;c;", 0);
        unlike(x, 0, "pn;c;", 1);
        unlike(x, 0, "np;c;", 2);
        unlike(x, 0, "p;nc;", 2);
        unlike(x, 0, "p;cnnn;", 3);
    }

    private static String chainOfTen() {
        StringBuilder text = new StringBuilder("bus wait 0 delay 0;");
        for (char name = 'a'; name <= 'j'; name++) {
            text.append("node ").append(name).append(" ports 2;");
        }
        for (char name = 'a'; name < 'j'; name++) {
            text.append("cable ").append(name).append(" 1 ").append((char) (name + 1)).append(" 0 long 1;");
        }
        return text.toString();
    }

    /** Promise 27: "(one that is there on one side alone: all its letters": on either side. */
    private static void packetByPacket() {
        CableElection x = Check.netOf("bus wait 0 delay 0;node a ports 1;node b ports 1;cable a 0 b 0 long 1;");
        unlike(x, 0, "", 2);
        unlike(x, 0, "n;", 1 + 1);
        unlike(x, 0, "p;pc;c;", 2 + 1);
        unlike(x, 0, ELEVEN + "c;", 2 + 9 * 2 + 1);
        x = Check.netOf(TextTest.tenNodes());
        for (int node = 0; node < 10; node++) {
            // nnnn by itself: four letters; against p and eleven more with 21 letters none is like another.
            unlike(x, node, "", 4);
            unlike(x, node, ELEVEN + "c;", 4 + 21);
        }
        x = Check.netOf(chainOfTen());
        unlike(x, 0, "", 20);
        // By id: np, cp four times, pn, pc three times, cc; against p, pc ten times, c.
        unlike(x, 9, ELEVEN + "c;", 2 + 4 * 2 + 1 + 0 + 1 + 2 + 1);
        unlike(x, 5, "np;cp;cp;cp;cp;pn;pc;pc;pc;cc;", 0);
    }

    /** Promise 27: "from those told": of those told before no letter is left. */
    private static void nothingOfFormerPacketsStays() {
        CableElection x = Check.netOf(chainOfTen());
        String all = "np;cp;cp;cp;cp;pn;pc;pc;pc;cc;";
        unlike(x, 0, all, 0);
        unlike(x, 0, all, 0);
        unlike(x, 0, "n;", 1 + 18);
        unlike(x, 0, all, 0);
        unlike(x, 0, "np;cn;", 1 + 16);
        unlike(x, 0, "", 20);
        Check.tell(x, all + "?");
        CHECK.due("packets()", x.packets(), -4);
        CHECK.due("unlike(0) behind a fault", x.unlike(0), 20);
    }

    /** Promise 27: "NONE: a LOOP; -2". */
    private static void unlikeBounds() {
        CableElection x = Check.netOf(NET + "node d ports 1;");
        Check.tell(x, "pn;p;cnc;");
        x.packets();
        CHECK.due("unlike(0)", x.unlike(0), 0);
        CHECK.due("unlike(2)", x.unlike(2), 0);
        CHECK.due("unlike(3)", x.unlike(3), 2 + 1 + 3);
        for (int node : new int[] {-1, 4, Integer.MAX_VALUE, Integer.MIN_VALUE}) {
            CHECK.due("unlike(" + node + ")", x.unlike(node), -2);
        }
        x.plug(0, 1, 1, 1, 1);
        for (int node = 0; node < 3; node++) {
            CHECK.due("unlike(" + node + ") in a loop", x.unlike(node), -1);
        }
        CHECK.due("unlike(3) beside a loop", x.unlike(3), 6);
        CableElection more = Check.netOf("bus wait 0 delay 0;node a ports 3;node b ports 3;cable a 0 b 0 long 1;cable a 1 b 1 long 1;cable a 2 b 2 long 1;");
        CHECK.due("unlike(0) with more cables than nodes", more.unlike(0), -1);
        CHECK.due("unlike(4)", x.unlike(4), -2);
        CHECK.due("unlike(0) without a net", new CableElection().unlike(0), -2);
    }
}
