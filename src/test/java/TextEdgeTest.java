/** Term I and promises 1 to 6: each sentence that names a boundary, on both sides of it. */
public final class TextEdgeTest {
    private static final String BUS = "bus wait 0 delay 0;";
    private static final String TWO = BUS + "node a ports 1;node b ports 2;";
    private static final Check CHECK = new Check("TextEdgeTest");

    public static void main(String[] args) {
        waitBounds();
        delayBounds();
        nodeBounds();
        nodesAsTheyStand();
        portBounds();
        coinBounds();
        coinsOfAnyLength();
        noCoinsAreZero();
        cableBounds();
        twoUnlikeNodes();
        portsOfACable();
        portsThatHaveOne();
        portsThatHaveOneOfEachNode();
        portsThatAreNoNumber();
        lengthBounds();
        blanks();
        longestTokens();
        lettersAndDigits();
        namesOfSixLetters();
        namesOfAnyLength();
        blanksAheadOfNames();
        reservedNames();
        namesTwice();
        firstFaultByPlace();
        placeOfTheEnd();
        busFirstAndOnce();
        wordsLetterByLetter();
        manyAtTheirWord();
        numbersOfAnyLength();
        newObject();
        objectsApart();
        callsUpToTheLast();
        feedBounds();
        refusedFeed();
        feedIsHighestFirst();
        endBounds();
        endCutsOff();
        netInPlaceOfAnother();
        nothingOfANetStays();
        nothingOfAFaultyTextStays();
        netOfNothing();
        faultyNetChangesNothing();
        faultOfTheLatest();
        counts();
        CHECK.close();
    }

    /** "W 0 .. 20". */
    private static void waitBounds() {
        CHECK.due("count(2)", CHECK.accepted("bus wait 0 delay 1;", 1).count(2), 0);
        CHECK.due("count(2)", CHECK.accepted("bus wait 20 delay 1;", 1).count(2), 20);
        CHECK.refusedFrom("bus wait ", "21 delay 1;", 2);
        CHECK.refusedFrom("bus wait ", "-1 delay 1;", 1);
    }

    /** "D 0 .. 9". */
    private static void delayBounds() {
        CHECK.due("count(3)", CHECK.accepted("bus wait 1 delay 0;", 1).count(3), 0);
        CHECK.due("count(3)", CHECK.accepted("bus wait 1 delay 9;", 1).count(3), 9);
        CHECK.refusedFrom("bus wait 1 delay ", "10;", 2);
        CHECK.refusedFrom("bus wait 1 delay ", "-1;", 1);
    }

    private static String nodes(int many, int ports) {
        StringBuilder text = new StringBuilder(BUS);
        for (int i = 0; i < many; i++) {
            text.append("node ").append((char) ('a' + i)).append(" ports ").append(ports).append(";");
        }
        return text.toString();
    }

    /** "NODES 0 .. 9": none is fine, and ten; "an eleventh node, at its word". */
    private static void nodeBounds() {
        CHECK.due("count(0) of none", CHECK.accepted(BUS, 1).count(0), 0);
        CableElection x = CHECK.accepted(nodes(10, 4), 11);
        CHECK.due("count(0)", x.count(0), 10);
        CHECK.due("size(9)", x.size(9), 1);
        CHECK.due("size(10)", x.size(10), -2);
        CHECK.refusedFrom(nodes(10, 4), "node k ports 4;", 3);
    }

    /** "as they stand": by the text's order, whatever the names are and whatever stands between. */
    private static void nodesAsTheyStand() {
        CableElection x = CHECK.accepted(BUS + "node z ports 1;node b ports 2;cable z 0 b 1 long 4;node a ports 3;", 5);
        CHECK.due("port(0, 0, 1)", x.port(0, 0, 1), 1);
        CHECK.due("port(0, 1, 1) of z", x.port(0, 1, 1), -2);
        CHECK.due("port(1, 1, 1)", x.port(1, 1, 1), 0);
        CHECK.due("port(2, 2, 0) of a", x.port(2, 2, 0), 0);
        CHECK.due("port(2, 3, 0) of a", x.port(2, 3, 0), -2);
    }

    /** "PORTS 1 .. 4 (from 0 on)". */
    private static void portBounds() {
        CHECK.refusedFrom(BUS + "node a ports ", "0;", 2);
        for (int ports = 1; ports <= 4; ports++) {
            CableElection x = CHECK.accepted(BUS + "node a ports " + ports + ";", 2);
            CHECK.due("port 0 of " + ports, x.port(0, 0, 0), 0);
            CHECK.due("the last port of " + ports, x.port(0, ports - 1, 0), 0);
            CHECK.due("the one behind the last of " + ports, x.port(0, ports, 0), -2);
            CHECK.due("the one ahead of the first of " + ports, x.port(0, -1, 0), -2);
        }
        CHECK.refusedFrom(BUS + "node a ports ", "5;", 2);
    }

    private static String pair(String coins, String others) {
        return BUS + "node a ports 1" + coins + ";node b ports 1" + others + ";cable a 0 b 0 long 1;";
    }

    /** "B 1 .. 8 digits, each 0 or 1". */
    private static void coinBounds() {
        String ahead = BUS + "node a ports 1 coins ";
        CHECK.refusedFrom(ahead, ";", 1);
        CHECK.accepted(ahead + "0;", 2);
        CHECK.accepted(ahead + "1;", 2);
        CHECK.accepted(ahead + "01010101;", 2);
        CHECK.refusedFrom(ahead, "010101010;", 2);
        CHECK.refusedFrom(ahead, "2;", 2);
        CHECK.refusedFrom(ahead, "9;", 2);
        CHECK.refusedFrom(ahead, "20000000;", 2);
        CHECK.refusedFrom(ahead, "00000002;", 2);
        // The first digit is the first bit, the eighth the eighth.
        CHECK.due("rounds, by the first", CHECK.accepted(pair(" coins 10000000", ""), 4).rounds(0), 1);
        CHECK.due("rounds, by the eighth", CHECK.accepted(pair(" coins 00000001", ""), 4).rounds(0), 8);
        CHECK.due("root, by the eighth", CHECK.accepted(pair(" coins 00000001", ""), 4).root(0), 0);
    }

    /** "B 1 .. 8 digits": no more, however many there are. */
    private static void coinsOfAnyLength() {
        String ahead = BUS + "node a ports 1 coins ";
        for (int many = 1; many <= 600; many++) {
            if (many <= 8) {
                CHECK.accepted(ahead + "0".repeat(many) + ";", 2);
            } else {
                CHECK.refusedFrom(ahead, "0".repeat(many) + ";", 2);
            }
        }
    }

    /** "(0 without)". */
    private static void noCoinsAreZero() {
        CHECK.due("root, none against 1", CHECK.accepted(pair("", " coins 1"), 4).root(0), 1);
        CHECK.due("root, 1 against none", CHECK.accepted(pair(" coins 1", ""), 4).root(0), 0);
        CHECK.due("rounds, none against 0", CHECK.accepted(pair("", " coins 0"), 4).rounds(0), 10);
        // Ten rounds of zeros, 2 L and 2 each.
        CHECK.due("settled, none against none", CHECK.accepted(pair("", ""), 4).settled(0), 1 + 10 * 4);
    }

    private static String ring(int cables) {
        StringBuilder text = new StringBuilder(nodes(10, 4));
        for (int i = 0; i < cables; i++) {
            int turn = i < 10 ? 0 : 2;
            text.append("cable ").append((char) ('a' + i % 10)).append(' ').append(turn).append(' ')
                .append((char) ('a' + (i + 1) % 10)).append(' ').append(turn + 1).append(" long 1;");
        }
        return text.toString();
    }

    /** "CABLES 15 at most"; "a sixteenth cable, at its word". */
    private static void cableBounds() {
        CHECK.due("count(1)", CHECK.accepted(ring(0), 11).count(1), 0);
        CHECK.due("count(1)", CHECK.accepted(ring(15), 26).count(1), 15);
        CHECK.refused(ring(16), 3, ring(15).length());
    }

    /** "of two unlike NODES"; "the first one's again". */
    private static void twoUnlikeNodes() {
        String four = BUS + "node a ports 4;node b ports 4;";
        CHECK.accepted(four + "cable a 0 b 0 long 1;", 4);
        CHECK.refusedFrom(four + "cable a 0 ", "a 1 long 1;", 2);
        CHECK.refusedFrom(four + "cable b 0 ", "b 1 long 1;", 2);
        // Two cables between the same two nodes are fine.
        CHECK.due("count(1)", CHECK.accepted(four + "cable a 0 b 0 long 1;cable b 1 a 1 long 1;", 5).count(1), 2);
    }

    /** "a PORT that its NODE has not". */
    private static void portsOfACable() {
        CHECK.accepted(TWO + "cable a 0 b 0 long 1;", 4);
        CHECK.accepted(TWO + "cable a 0 b 1 long 1;", 4);
        CHECK.refusedFrom(TWO + "cable a 0 b ", "2 long 1;", 2);
        CHECK.refusedFrom(TWO + "cable a ", "1 b 0 long 1;", 2);
        CHECK.refusedFrom(TWO + "cable b ", "2 a 0 long 1;", 2);
        // A port that wrapped around would be there.
        CHECK.refusedFrom(TWO + "cable a ", "4294967296 b 0 long 1;", 2);
        CHECK.refusedFrom(TWO + "cable a 0 b ", "-1 long 1;", 1);
    }

    /** "PORTS that have none yet"; "that has a CABLE". */
    private static void portsThatHaveOne() {
        String three = TWO + "node c ports 2;cable a 0 b 1 long 1;";
        CHECK.accepted(three + "cable b 0 c 1 long 1;", 6);
        CHECK.refusedFrom(three + "cable b ", "1 c 1 long 1;", 2);
        CHECK.refusedFrom(three + "cable c 0 b ", "1 long 1;", 2);
        CHECK.refusedFrom(three + "cable a ", "0 c 1 long 1;", 2);
        // In a net with fewer nodes than a node has ports, too.
        for (int port = 0; port < 4; port++) {
            String pair = nodes(2, 4) + "cable a " + port + " b " + (3 - port) + " long 1;";
            CHECK.refusedFrom(pair + "cable a ", port + " b " + port + " long 1;", 2);
            CHECK.refusedFrom(pair + "cable a " + (3 - port) + " b ", (3 - port) + " long 1;", 2);
            CHECK.accepted(pair + "cable a " + (3 - port) + " b " + port + " long 1;", 5);
        }
    }

    /** "that has a CABLE": for every port of every node, at either end; the ports beside it are free. */
    private static void portsThatHaveOneOfEachNode() {
        for (int node = 0; node < 10; node++) {
            char name = (char) ('a' + node);
            char one = (char) ('a' + (node + 1) % 10);
            char other = (char) ('a' + (node + 2) % 10);
            for (int port = 0; port < 4; port++) {
                String text = nodes(10, 4) + "cable " + name + " " + port + " " + one + " 3 long 1;";
                for (int again = 0; again < 4; again++) {
                    String from = again + " " + other + " 0 long 1;";
                    String to = again + " long 1;";
                    if (again == port) {
                        CHECK.refusedFrom(text + "cable " + name + " ", from, 2);
                        CHECK.refusedFrom(text + "cable " + other + " 0 " + name + " ", to, 2);
                    } else {
                        CHECK.accepted(text + "cable " + name + " " + from, 13);
                        CHECK.accepted(text + "cable " + other + " 0 " + name + " " + to, 13);
                    }
                }
                CHECK.refusedFrom(text + "cable " + one + " ", "3 " + other + " 0 long 1;", 2);
            }
        }
    }

    /** "1 a TOKEN that can't stand there", at the place of a PORT, whether port 0 has a cable or not. */
    private static void portsThatAreNoNumber() {
        String three = TWO + "node c ports 2;cable a 0 b 0 long 1;";
        for (String other : new String[] {"", ";", "b 0 long 1;", "long 1;", "?", ":"}) {
            CHECK.refusedFrom(three + "cable a ", other, 1);
            CHECK.refusedFrom(three + "cable c ", other, 1);
            CHECK.refusedFrom(three + "cable c 0 b ", other, 1);
            CHECK.refusedFrom(three + "cable b 1 c ", other, 1);
        }
    }

    /** "L 1 .. 9". */
    private static void lengthBounds() {
        CHECK.refusedFrom(TWO + "cable a 0 b 1 long ", "0;", 2);
        CHECK.due("port(0, 0, 3)", CHECK.accepted(TWO + "cable a 0 b 1 long 1;", 4).port(0, 0, 3), 1);
        CHECK.due("port(0, 0, 3)", CHECK.accepted(TWO + "cable a 0 b 1 long 9;", 4).port(0, 0, 3), 9);
        CHECK.refusedFrom(TWO + "cable a 0 b 1 long ", "10;", 2);
    }

    /** "TOKENS, blanks (32, 10) aside". */
    private static void blanks() {
        CHECK.accepted(" \n bus\n\nwait 0\n delay 0 ; \n", 1);
        for (int sign : new int[] {0, 9, 11, 12, 13, 31, 33, 127, 128, 138, 160, 255}) {
            CHECK.refusedFrom("bus", (char) sign + "wait 0 delay 0;", 1);
            CHECK.refusedFrom("", (char) sign + BUS, 1);
            CHECK.refusedFrom(BUS, String.valueOf((char) sign), 1);
        }
    }

    /** "the longest". */
    private static void longestTokens() {
        CHECK.refusedFrom("", "buswait 0 delay 0;", 1);
        CHECK.refusedFrom("", "b us wait 0 delay 0;", 1);
        CHECK.refusedFrom(BUS, "nodea ports 1;", 1);
        CHECK.due("count(2) of 1 and 2 at once", CHECK.accepted("bus wait 12 delay 0;", 1).count(2), 12);
        CHECK.refusedFrom("bus wait 1 ", "2 delay 0;", 1);
        CHECK.accepted("bus wait0delay0;node a ports1force coins1;", 2);
        CHECK.refusedFrom(BUS + "node a ports 1 coins 1", "x;", 1);
        CHECK.refusedFrom(BUS + "node a ports 1 coins 1 ", "1;", 1);
        CHECK.refusedFrom(BUS + "node a ports 1 ", "forcecoins 1;", 1);
    }

    /** "words (a .. z), numbers (digits), the sign ;". */
    private static void lettersAndDigits() {
        CHECK.accepted(BUS + "node abcxyz ports 1;", 2);
        CHECK.refusedFrom(BUS + "node a", "` ports 1;", 1);
        CHECK.refusedFrom(BUS + "node a", "{ ports 1;", 1);
        CHECK.refusedFrom(BUS + "node a", "A ports 1;", 1);
        CHECK.refusedFrom(BUS + "node a", "Z ports 1;", 1);
        CHECK.refusedFrom(BUS + "node ", "A ports 1;", 1);
        CHECK.due("count(3)", CHECK.accepted("bus wait 10 delay 9;", 1).count(3), 9);
        CHECK.refusedFrom("bus wait 10 delay ", "/;", 1);
        CHECK.refusedFrom("bus wait 10 delay 9", ":", 1);
        CHECK.refusedFrom("bus wait 10 delay 9", "<", 1);
        CHECK.refusedFrom("bus wait 10 delay 9", ",", 1);
    }

    /** "NAMES: words of at most 6 letters". */
    private static void namesOfSixLetters() {
        CHECK.accepted(BUS + "node a ports 1;", 2);
        CHECK.accepted(BUS + "node abcdef ports 1;node abcdeg ports 1;cable abcdeg 0 abcdef 0 long 1;", 4);
        CHECK.refusedFrom(BUS + "node ", "abcdefg ports 1;", 2);
        CHECK.refusedFrom(BUS + "node abcdef ports 1;node g ports 1;cable ", "abcdefg 0 g 0 long 1;", 2);
        CHECK.refusedFrom(BUS + "node abcdef ports 1;node g ports 1;cable g 0 ", "abcdefg 0 long 1;", 2);
    }

    /** "at most 6 letters": no more, however many there are, be the first six a name that is told. */
    private static void namesOfAnyLength() {
        String told = BUS + "node aaaaaa ports 1;node b ports 1;";
        for (int letters = 7; letters <= 600; letters++) {
            String name = "a".repeat(letters);
            CHECK.refusedFrom(BUS + "node ", name + " ports 1;", 2);
            CHECK.refusedFrom(told + "cable ", name + " 0 b 0 long 1;", 2);
            CHECK.refusedFrom(told + "cable b 0 ", name + " 0 long 1;", 2);
        }
    }

    /** "blanks aside": what stands ahead of a name and behind it is no part of it. */
    private static void blanksAheadOfNames() {
        for (String blank : new String[] {" ", "\n", "\n ", " \n"}) {
            CableElection x = CHECK.accepted(BUS + "node" + blank + "a ports 1;node b" + blank + "ports 1;cable a 0" + blank + "b 0 long 1;", 4);
            CHECK.due("port(0, 0, 1)", x.port(0, 0, 1), 1);
            CHECK.accepted(BUS + "node a ports 1;node b ports 1;cable" + blank + "b 0a 0 long 1;", 4);
            CHECK.refusedFrom(BUS + "node a ports 1;node" + blank, "a ports 1;", 2);
        }
    }

    /** "none of bus, node, cable, force, coins"; "any word may stand for a NAME". */
    private static void reservedNames() {
        for (String word : new String[] {"bus", "node", "cable", "force", "coins"}) {
            CHECK.refusedFrom(BUS + "node ", word + " ports 1;", 2);
            CHECK.refusedFrom(TWO + "cable ", word + " 0 b 0 long 1;", 2);
            CHECK.refusedFrom(TWO + "cable a 0 ", word + " 0 long 1;", 2);
        }
        for (String word : new String[] {"wait", "delay", "ports", "long", "bu", "buss", "nod", "nodes", "cabl", "cables",
            "forc", "forces", "coin", "coinsx", "n", "p", "c"}) {
            CHECK.accepted(BUS + "node " + word + " ports 1;node q ports 1;cable " + word + " 0 q 0 long 1;", 4);
        }
    }

    /** "none twice"; "told already (of a node), not told (of a cable)". */
    private static void namesTwice() {
        CHECK.accepted(BUS + "node a ports 1;node aa ports 1;node ab ports 1;node ba ports 1;", 5);
        CHECK.refusedFrom(BUS + "node ab ports 1;node ", "ab ports 1;", 2);
        CHECK.refusedFrom(BUS + "node ab ports 1;node a ports 1;node b ports 1;node ", "a ports 1;", 2);
        CHECK.refusedFrom(TWO + "cable ", "c 0 b 0 long 1;node c ports 1;", 2);
        CHECK.refusedFrom(TWO + "cable a 0 ", "c 0 long 1;node c ports 1;", 2);
        // A name of the net before is not told in this one.
        CableElection x = CHECK.accepted(TWO, 3);
        Check.tell(x, BUS + "node b ports 1;cable b 0 a 0 long 1;");
        CHECK.due("net()", x.net(), -4);
        CHECK.due("fault(0)", x.fault(0), 2);
        CHECK.due("fault(1)", x.fault(1), 44);
    }

    /** "FAULTS, the first by its place". */
    private static void firstFaultByPlace() {
        CHECK.refusedFrom("bus wait ", "21 delay ?", 2);
        CHECK.refusedFrom("bus wait ", "? delay 10;", 1);
        CHECK.refusedFrom("bus wait 1 delay ", "10 10 ?", 2);
        CHECK.refusedFrom(nodes(10, 1), "node a ports 9 ?", 3);
        CHECK.refusedFrom(nodes(9, 1) + "node ", "a ports 1;node k ports 1;", 2);
        CHECK.refusedFrom(nodes(10, 1) + "cable ", "x 0 a 0 long 1;node k ports 1;", 2);
    }

    /** "(a TOKEN's first byte; the end's)": how many bytes there are, blanks, too. */
    private static void placeOfTheEnd() {
        String[] parts = {"bus ", "wait ", "0 ", "delay ", "0 ", ";node ", "a ", "ports ", "1 ", "force ", "coins ", "1 ",
            ";node ", "b ", "ports ", "1 ", ";cable ", "a ", "0 ", "b ", "0 ", "long ", "1 "};
        StringBuilder text = new StringBuilder();
        for (String part : parts) {
            text.append(part);
            CHECK.refusedFrom(text.toString(), "", 1);
            CHECK.refusedFrom(text.toString().trim(), "", 1);
            CHECK.refusedFrom(text.toString() + "\n  ", "", 1);
        }
        CHECK.accepted(text + ";", 4);
        CHECK.refusedFrom("bus" + " ".repeat(697), "", 1);
    }

    /** "bus is the first LINE and no other"; "bus behind the first LINE, another word ahead of it". */
    private static void busFirstAndOnce() {
        CHECK.accepted(BUS, 1);
        for (String word : new String[] {"node", "cable", "wait", "force", "x", "bu", "buss"}) {
            CHECK.refusedFrom(" ", word + " wait 0 delay 0;", 1);
        }
        CHECK.refusedFrom(BUS, BUS, 1);
        CHECK.refusedFrom(TWO, "bus", 1);
        CHECK.refusedFrom(TWO, "wait 0 delay 0;", 1);
        CHECK.refusedFrom(BUS, ";", 1);
        CHECK.refusedFrom(BUS, "0;", 1);
    }

    /** A word that is not the one due there "can't stand there", be it another by one letter alone. */
    private static void wordsLetterByLetter() {
        String[] text = {"", "bus", " ", "wait", " 0 ", "delay", " 0;", "node", " a ", "ports", " 1 ", "force", " ", "coins", " 1;",
            "node", " b ", "ports", " 1;", "cable", " a 0 b 0 ", "long", " 1;"};
        CHECK.accepted(String.join("", text), 4);
        for (int at = 1; at < text.length; at += 2) {
            StringBuilder ahead = new StringBuilder();
            StringBuilder behind = new StringBuilder();
            for (int i = 0; i < text.length; i++) {
                (i < at ? ahead : behind).append(i == at ? "" : text[i]);
            }
            String word = text[at];
            for (int i = 0; i < word.length(); i++) {
                String other = word.substring(0, i) + (char) (word.charAt(i) + 1) + word.substring(i + 1);
                String shorter = word.substring(0, i) + word.substring(i + 1);
                CHECK.refusedFrom(ahead.toString(), other + behind, 1);
                CHECK.refusedFrom(ahead.toString(), shorter + behind, 1);
            }
            CHECK.refusedFrom(ahead.toString(), word + "s" + behind, 1);
            CHECK.refusedFrom(ahead.toString(), "s" + word + behind, 1);
        }
    }

    /** "3 an eleventh node, a sixteenth cable, at its word": alone, they are no other fault. */
    private static void manyAtTheirWord() {
        CHECK.refusedFrom(nodes(10, 4), "node", 3);
        CHECK.refusedFrom(nodes(10, 4), "node bus", 3);
        CHECK.refusedFrom(nodes(10, 4), "nodes", 1);
        CHECK.refusedFrom(ring(15), "cable", 3);
        CHECK.refusedFrom(ring(15), "cable a 0 a 0", 3);
        CHECK.refusedFrom(ring(15), "cables", 1);
        CHECK.refusedFrom(ring(14) + "cable ", "z", 2);
    }

    /** "numbers (digits)": by their value, however many digits there are. */
    private static void numbersOfAnyLength() {
        CHECK.due("count(2)", CHECK.accepted("bus wait " + "0".repeat(600) + "20 delay 009;", 1).count(2), 20);
        CHECK.refusedFrom("bus wait ", "0".repeat(600) + "21 delay 9;", 2);
        for (String number : new String[] {"200", "1000", "65536", "2147483648", "4294967296", "4294967301",
            "18446744073709551616", "18446744073709551621", "9".repeat(600)}) {
            CHECK.refusedFrom("bus wait ", number + " delay 0;", 2);
            CHECK.refusedFrom("bus wait 0 delay ", number + ";", 2);
        }
    }

    /** Promise 1: "No NET." */
    private static void newObject() {
        CableElection x = new CableElection();
        for (int what = 0; what <= 8; what++) {
            CHECK.due("count(" + what + ")", x.count(what), 0);
        }
        CHECK.due("undo()", x.undo(), -2);
        CHECK.due("anew()", x.anew(), -2);
        CHECK.due("bridges()", x.bridges(), -2);
        CHECK.due("size(0)", x.size(0), -2);
        CHECK.due("built(0, 0)", x.built(0, 0), -2);
        // With a net that has nothing but its first line it is another matter.
        x = CHECK.accepted(BUS, 1);
        CHECK.due("undo()", x.undo(), -5);
        CHECK.due("anew()", x.anew(), 0);
        CHECK.due("bridges()", x.bridges(), 0);
        CHECK.due("size(0)", x.size(0), -2);
    }

    /** What one object is told is nothing to another, made before it or behind it. */
    private static void objectsApart() {
        CableElection before = new CableElection();
        CableElection x = CHECK.accepted("bus wait 3 delay 4;node a ports 2;node b ports 2;cable a 0 b 0 long 5;", 4);
        Check.tell(x, "p;c;");
        x.packets();
        x.plug(0, 1, 1, 1, 6);
        x.feed(0, 0, 0, 0, 0);
        for (CableElection other : new CableElection[] {before, new CableElection()}) {
            check(other, 0, 0, 0, 0, 0, 0, 0, 0, 0);
            CHECK.due("built(0, 0)", other.built(0, 0), -2);
            Check.tell(other, "?");
            CHECK.due("net()", other.net(), -4);
            read(other, BUS + "node z ports 4 force;", 2);
            Check.tell(other, "n;");
            CHECK.due("packets()", other.packets(), 1);
            CHECK.due("force(0, 0)", other.force(0, 0), 0);
        }
        check(x, 2, 2, 3, 4, 1, 4, 20, 1, 1);
        CHECK.due("fault(0)", x.fault(0), 0);
        CHECK.due("built(0, 0)", x.built(0, 0), 1);
        CHECK.due("port(0, 1, 3)", x.port(0, 1, 3), 6);
        CHECK.due("undo()", x.undo(), 0);
        CHECK.due("settled(0)", x.settled(0), 5 + 10 * 12);
    }

    /** "at most 512 calls": the last one answers as the first did. */
    private static void callsUpToTheLast() {
        CableElection x = new CableElection();
        int calls = 0;
        for (int times = 0; calls <= 512 - 20; times++) {
            byte[] text = pair(" coins 01", times % 2 == 0 ? "" : " force").getBytes(java.nio.charset.StandardCharsets.ISO_8859_1);
            for (int at = 0; at < text.length; at += 20) {
                CHECK.due("feed", x.feed(Check.four(text, at), Check.four(text, at + 4), Check.four(text, at + 8),
                    Check.four(text, at + 12), Check.four(text, at + 16)), at + 20);
                calls++;
            }
            CHECK.due("end", x.end(text.length), text.length);
            CHECK.due("net()", x.net(), 4);
            CHECK.due("settled(0)", x.settled(0), 1 + 4 + 8);
            CHECK.due("pull(0, 0)", x.pull(0, 0), 2);
            CHECK.due("undo()", x.undo(), 0);
            CHECK.due("force", x.force(1, 1 - times % 2), 0);
            CHECK.due("rounds(1)", x.rounds(1), 2);
            calls += 7;
        }
        for (; calls < 511; calls++) {
            CHECK.due("grant(2)", x.grant(2), 2);
        }
        CHECK.due("anew(), the last call", x.anew(), 1);
    }

    /** Promise 2: "NONE, and none come, if it would have more than 700." */
    private static void feedBounds() {
        for (int less = 0; less < 20; less++) {
            CableElection x = new CableElection();
            for (int i = 0; i < 34; i++) {
                x.feed(0, 0, 0, 0, 0);
            }
            CHECK.due("end", x.end(680 - less), 680 - less);
            CHECK.due("feed up to " + (700 - less), x.feed(0, 0, 0, 0, 0), 700 - less);
            CHECK.due("feed above 700", x.feed(0, 0, 0, 0, 0), -1);
            CHECK.due("count(6)", x.count(6), 700 - less);
        }
        CableElection x = new CableElection();
        for (int i = 0; i < 35; i++) {
            x.feed(0, 0, 0, 0, 0);
        }
        CHECK.due("end", x.end(681), 681);
        CHECK.due("feed up to 701", x.feed(0, 0, 0, 0, 0), -1);
        CHECK.due("end", x.end(680), 680);
        CHECK.due("feed up to 700", x.feed(0, 0, 0, 0, 0), 700);
    }

    /** Promise 2: "none come": what the tape has is as before, up to its last byte. */
    private static void refusedFeed() {
        CableElection x = new CableElection();
        Check.tell(x, BUS + " ".repeat(666) + "node a ports 1;");
        CHECK.due("count(6)", x.count(6), 700);
        CHECK.due("feed", x.feed(0x3f3f3f3f, 0x3f3f3f3f, 0x3f3f3f3f, 0x3f3f3f3f, 0x3f3f3f3f), -1);
        CHECK.due("net()", x.net(), 2);
        Check.tell(x, BUS + " ".repeat(662));
        CHECK.due("count(6)", x.count(6), 681);
        CHECK.due("feed", x.feed(0x3f3f3f3f, 0x3f3f3f3f, 0x3f3f3f3f, 0x3f3f3f3f, 0x3f3f3f3f), -1);
        CHECK.due("count(6)", x.count(6), 681);
        CHECK.due("net()", x.net(), 1);
    }

    /** Promise 2: "four of each number, the highest first". */
    private static void feedIsHighestFirst() {
        CableElection x = new CableElection();
        // "bus wait 12 delay 3;"
        CHECK.due("feed", x.feed(0x62757320, 0x77616974, 0x20313220, 0x64656c61, 0x7920333b), 20);
        CHECK.due("net()", x.net(), 1);
        CHECK.due("count(2)", x.count(2), 12);
        CHECK.due("count(3)", x.count(3), 3);
        // A highest byte of 128 and more makes the number one below 0: it is a byte all the same.
        x.feed(0x62757320, 0x77616974, 0x20312080, 0, 0);
        CHECK.due("net()", x.net(), -4);
        CHECK.due("fault(1)", x.fault(1), 11);
        x.feed(0x62757320, 0x77616974, 0xff313220, 0x64656c61, 0x7920333b);
        CHECK.due("net()", x.net(), -4);
        CHECK.due("fault(0)", x.fault(0), 1);
        CHECK.due("fault(1)", x.fault(1), 8);
    }

    /** Promise 3: "NONE, and nothing happens, if it has not so many, or n is below 0." */
    private static void endBounds() {
        CableElection x = new CableElection();
        CHECK.due("end(0) of none", x.end(0), 0);
        CHECK.due("end(1) of none", x.end(1), -1);
        Check.tell(x, BUS);
        for (int n : new int[] {20, 21, 700, 701, -1, -19, Integer.MAX_VALUE, Integer.MIN_VALUE}) {
            CHECK.due("end(" + n + ")", x.end(n), -1);
            CHECK.due("count(6)", x.count(6), 19);
        }
        CHECK.due("end(19)", x.end(19), 19);
        CHECK.due("net()", x.net(), 1);
        CHECK.due("end(1) behind net()", x.end(1), -1);
        Check.tell(x, BUS);
        CHECK.due("end(0)", x.end(0), 0);
        CHECK.due("count(6)", x.count(6), 0);
        CHECK.due("net()", x.net(), 0);
    }

    /** Promise 3: "its first n bytes alone": those behind are gone for good. */
    private static void endCutsOff() {
        CableElection x = new CableElection();
        Check.tell(x, BUS + "node a ports 1;");
        CHECK.due("end(19)", x.end(19), 19);
        CHECK.due("end(34)", x.end(34), -1);
        // What is fed then comes behind the 19th.
        Check.tell(x, "node b ports 2;");
        CHECK.due("count(6)", x.count(6), 34);
        CHECK.due("net()", x.net(), 2);
        CHECK.due("port(0, 1, 0)", x.port(0, 1, 0), 0);
        Check.tell(x, BUS);
        CHECK.due("end(18)", x.end(18), 18);
        CHECK.due("net()", x.net(), -4);
        CHECK.due("fault(1)", x.fault(1), 18);
    }

    /** Promise 4: "(in place of another), no acts: how many LINES". */
    private static void netInPlaceOfAnother() {
        CableElection x = CHECK.accepted("bus wait 7 delay 8;node a ports 4;node b ports 4;node c ports 4;"
            + "cable a 0 b 0 long 1;cable a 1 b 1 long 1;cable a 2 c 2 long 1;", 7);
        x.pull(0, 0);
        x.force(1, 1);
        Check.tell(x, "bus wait 1 delay 2;node a ports 1;node b ports 1;");
        CHECK.due("net()", x.net(), 3);
        int[] want = {2, 0, 1, 2, 0, 3, 0, 2, 0};
        for (int what = 0; what < want.length; what++) {
            CHECK.due("count(" + what + ")", x.count(what), want[what]);
        }
        CHECK.due("undo()", x.undo(), -5);
        CHECK.due("force(1, 0), not forced", x.force(1, 0), -5);
        CHECK.due("port(0, 1, 0)", x.port(0, 1, 0), -2);
        CHECK.due("port(0, 0, 1)", x.port(0, 0, 1), -1);
        CHECK.due("root(2)", x.root(2), -2);
    }

    private static void read(CableElection x, String text, int answer) {
        Check.tell(x, text);
        CHECK.due("net() of " + text, x.net(), answer);
    }

    /** Promise 4: "(in place of another)": of those told before nothing is left, however many there were. */
    private static void nothingOfANetStays() {
        for (int times = 1; times <= 3; times++) {
            CableElection x = new CableElection();
            for (int i = 0; i < times; i++) {
                read(x, "bus wait 7 delay 8;node a ports 4 force coins 11111111;node b ports 4 force coins 0;cable a 0 b 0 long 9;cable a 1 b 1 long 9;", 5);
            }
            read(x, pair("", ""), 4);
            check(x, 2, 1, 0, 0, 0, 4, 0, 1, 0);
            CHECK.due("rounds(0), by no coins", x.rounds(0), 10);
            CHECK.due("force(0, 0), not forced", x.force(0, 0), -5);
            CHECK.due("port(0, 1, 0)", x.port(0, 1, 0), -2);
            CHECK.due("port(0, 0, 3)", x.port(0, 0, 3), 1);
            for (int i = 0; i < times; i++) {
                read(x, "bus wait 7 delay 8;node a ports 4;node b ports 4;cable a 2 b 3 long 9;", 4);
            }
            read(x, "", 0);
            check(x, 0, 0, 0, 0, 0, 0, 0, 0, 0);
            read(x, "bus wait 7 delay 8;node a ports 4;node b ports 4;", 3);
            check(x, 2, 0, 7, 8, 0, 3, 0, 2, 0);
        }
    }

    /** Of a text with a fault nothing is told, for the texts behind it neither. */
    private static void nothingOfAFaultyTextStays() {
        CableElection x = new CableElection();
        for (int times = 0; times < 3; times++) {
            read(x, "bus wait 7 delay 8;node a ports 4 force coins 1;node b ports 4;cable a 0 b 0 long 9;cable a 1 b 1 long 9;?", -4);
            check(x, 0, 0, 0, 0, 0, 0, 0, 0, 0);
        }
        read(x, pair("", ""), 4);
        check(x, 2, 1, 0, 0, 0, 4, 0, 1, 0);
        CHECK.due("rounds(0)", x.rounds(0), 10);
        for (int times = 0; times < 3; times++) {
            read(x, ring(16), -4);
            check(x, 2, 1, 0, 0, 0, 4, 0, 1, 0);
        }
        read(x, ring(15), 26);
        check(x, 10, 15, 0, 0, 0, 26, 0, 1, 1);
    }

    /** Promise 4: "(0: there is none then)". */
    private static void netOfNothing() {
        for (String blank : new String[] {"", " ", "\n", " \n ".repeat(233)}) {
            CableElection x = CHECK.accepted("bus wait 3 delay 4;node a ports 1;node b ports 1;cable a 0 b 0 long 1;", 4);
            x.pull(0, 0);
            Check.tell(x, blank);
            CHECK.due("net()", x.net(), 0);
            CHECK.due("fault(0)", x.fault(0), 0);
            CHECK.due("fault(1)", x.fault(1), -1);
            for (int what = 0; what <= 8; what++) {
                CHECK.due("count(" + what + ")", x.count(what), 0);
            }
            CHECK.due("undo()", x.undo(), -2);
            CHECK.due("anew()", x.anew(), -2);
            CHECK.due("bridges()", x.bridges(), -2);
            CHECK.due("root(0)", x.root(0), -2);
            CHECK.due("plug(0, 0, 1, 0, 1)", x.plug(0, 0, 1, 0, 1), -2);
            CHECK.due("wins(1)", x.wins(1), -2);
        }
    }

    /** Promise 4: "-4: a FAULT (all else stays)": the tape is empty, and no more than that. */
    private static void faultyNetChangesNothing() {
        Check.Calls before = x -> {
            Check.tell(x, "bus wait 3 delay 4;node a ports 2;node b ports 3 force;node c ports 2;cable a 0 b 0 long 2;cable b 1 c 1 long 5;");
            x.net();
            Check.tell(x, "p;pn;ccn;");
            x.packets();
            x.force(0, 1);
            x.plug(0, 1, 2, 0, 9);
            x.pull(0, 0);
        };
        String[] faulty = {"bus", "bus wait 1 delay 1;node q ports 4 force coins 1;node r ports 1;cable q 0 r 0 long 1;node q",
            nodes(10, 4) + "node", ring(16), "?"};
        for (String text : faulty) {
            CHECK.nothingHappens("a faulty net()", before, x -> {
                Check.tell(x, text);
                CHECK.due("net()", x.net(), -4);
                CHECK.due("count(6)", x.count(6), 0);
            });
        }
    }

    /** Promise 5, whole. */
    private static void faultOfTheLatest() {
        CableElection x = new CableElection();
        CHECK.due("fault(0) ahead of any", x.fault(0), 0);
        for (int what : new int[] {1, 2, -1, Integer.MAX_VALUE, Integer.MIN_VALUE}) {
            CHECK.due("fault(" + what + ") ahead of any", x.fault(what), -1);
        }
        Check.tell(x, BUS + "node a ports 5;");
        CHECK.due("fault(0), none read yet", x.fault(0), 0);
        x.net();
        // What is no net() and no packets() leaves it, refused or not.
        x.feed(0, 0, 0, 0, 0);
        x.end(-1);
        x.end(0);
        x.plug(0, 0, 1, 0, 1);
        x.undo();
        CHECK.due("fault(0)", x.fault(0), 2);
        CHECK.due("fault(1)", x.fault(1), 32);
        for (int what : new int[] {2, -1, Integer.MAX_VALUE, Integer.MIN_VALUE}) {
            CHECK.due("fault(" + what + ")", x.fault(what), -1);
        }
        Check.tell(x, "p;");
        x.packets();
        CHECK.due("fault(0) of packets()", x.fault(0), 4);
        CHECK.due("fault(1) of packets()", x.fault(1), 2);
        Check.tell(x, "?");
        x.net();
        CHECK.due("fault(0) of net()", x.fault(0), 1);
        CHECK.due("fault(1) of net(), place 0", x.fault(1), 0);
        x.packets();
        CHECK.due("fault(0) of packets()", x.fault(0), 0);
        CHECK.due("fault(1) of packets()", x.fault(1), -1);
        Check.tell(x, "?");
        x.packets();
        x.net();
        CHECK.due("fault(0) of net()", x.fault(0), 0);
        CHECK.due("fault(1) of net()", x.fault(1), -1);
    }

    /** Promise 6, whole: "1 CABLES (by acts)", "NONE for others". */
    private static void counts() {
        CableElection x = CHECK.accepted("bus wait 6 delay 5;node a ports 3;node b ports 3;node c ports 2;node d ports 1;"
            + "cable a 0 b 0 long 2;cable a 1 b 1 long 2;", 7);
        check(x, 4, 2, 6, 5, 0, 7, 0, 3, 1);
        x.plug(2, 0, 3, 0, 1);
        check(x, 4, 3, 6, 5, 1, 7, 0, 2, 1);
        x.pull(0, 0);
        check(x, 4, 2, 6, 5, 2, 7, 0, 2, 0);
        x.force(0, 1);
        check(x, 4, 2, 6, 5, 3, 7, 0, 2, 0);
        x.plug(2, 1, 0, 2, 1);
        check(x, 4, 3, 6, 5, 4, 7, 0, 1, 0);
        x.feed(0, 0, 0, 0, 0);
        check(x, 4, 3, 6, 5, 4, 7, 20, 1, 0);
        x.end(3);
        x.undo();
        check(x, 4, 2, 6, 5, 3, 7, 3, 2, 0);
        x.anew();
        check(x, 4, 2, 6, 5, 0, 7, 3, 3, 1);
        for (int what : new int[] {-1, 9, 10, Integer.MAX_VALUE, Integer.MIN_VALUE}) {
            CHECK.due("count(" + what + ")", x.count(what), -1);
        }
    }

    private static void check(CableElection x, int... want) {
        for (int what = 0; what < want.length; what++) {
            CHECK.due("count(" + what + ")", x.count(what), want[what]);
        }
    }
}
