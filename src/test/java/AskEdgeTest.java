/** Term VI and promises 28 to 31: each sentence that names a boundary, on both sides of it. */
public final class AskEdgeTest {
    private static final Check CHECK = new Check("AskEdgeTest");

    public static void main(String[] args) {
        rootsOwnAtOnce();
        lengthThereAndBack();
        childrenOfTheRootAtOneTick();
        childrenInsideAtOneTick();
        ownAheadOfAChilds();
        onlyTheFirstIsPassedOn();
        delayForAChildsAlone();
        delayWhateverTheNumbers();
        delayDecides();
        delayForEachPassing();
        oneThatHasWonGoesOut();
        nobodyAsks();
        noSuchNodes();
        notOfOneBus();
        inALoop();
        turnBounds();
        fairBounds();
        withoutANet();
        askingChangesNothing();
        CHECK.close();
    }

    private static void asks(CableElection x, int set, int winner, int tick) {
        CHECK.due("wins(" + set + ")", x.wins(set), winner);
        CHECK.due("grant(" + set + ")", x.grant(set), tick);
        CHECK.due("turn(" + set + ", 0)", x.turn(set, 0), winner);
    }

    /** Root m (1), with d (4) at port 0, c (3) at 1, b (2) at 2 and a (0) at 3. */
    private static CableElection star(int d, int c, int b, int a) {
        CableElection x = Check.netOf("bus wait 20 delay 9;node a ports 1;node m ports 4 force;node b ports 1;node c ports 1;node d ports 1;"
            + "cable m 0 d 0 long " + d + ";cable m 1 c 0 long " + c + ";cable m 2 b 0 long " + b + ";cable m 3 a 0 long " + a + ";");
        CHECK.due("root(0)", x.root(0), 1);
        return x;
    }

    /** "The ROOT grants the first it has (its own at tick 0": whoever else asks. */
    private static void rootsOwnAtOnce() {
        CableElection x = star(1, 1, 1, 1);
        asks(x, 0b00010, 1, 0);
        asks(x, 0b11111, 1, 0);
        asks(x, 0b00011, 1, 0);
        asks(x, 0b11101, 4, 2);
    }

    /** "a CABLE takes its length"; "the grant goes back the same way, in as many ticks". */
    private static void lengthThereAndBack() {
        for (int length : new int[] {1, 5, 9}) {
            asks(star(1, length, 1, 1), 0b01000, 3, 2 * length);
        }
    }

    /** "likewise": of children at one tick by the least port, not by the least node; a tick earlier is first. */
    private static void childrenOfTheRootAtOneTick() {
        asks(star(5, 5, 5, 5), 0b11101, 4, 10);
        asks(star(5, 5, 5, 5), 0b01101, 3, 10);
        asks(star(5, 5, 5, 5), 0b00101, 2, 10);
        asks(star(5, 5, 5, 5), 0b00001, 0, 10);
        asks(star(5, 5, 5, 4), 0b11101, 0, 8);
        asks(star(5, 4, 4, 5), 0b11101, 3, 8);
        asks(star(6, 5, 5, 5), 0b11101, 3, 10);
        asks(star(4, 5, 5, 5), 0b11101, 4, 8);
    }

    /** Root r (0); y (1) below it, with u (3) at port 0, its parent at port 1 and v (2) at port 2. */
    private static CableElection inside(int u, int v) {
        CableElection x = Check.netOf("bus wait 20 delay 4;node r ports 1 force;node y ports 3;node v ports 1;node u ports 1;"
            + "cable r 0 y 1 long 3;cable y 2 v 0 long " + v + ";cable y 0 u 0 long " + u + ";");
        CHECK.due("root(1)", x.root(1), 0);
        return x;
    }

    /** "of CHILDREN at one tick by the least PORT". */
    private static void childrenInsideAtOneTick() {
        asks(inside(2, 2), 0b1100, 3, 2 * (2 + 4 + 3));
        asks(inside(2, 1), 0b1100, 2, 2 * (1 + 4 + 3));
        asks(inside(1, 2), 0b1100, 3, 2 * (1 + 4 + 3));
        asks(inside(3, 2), 0b1100, 2, 2 * (2 + 4 + 3));
    }

    /** "its own at tick 0, passed on at once". */
    private static void ownAheadOfAChilds() {
        asks(inside(1, 1), 0b1110, 1, 2 * 3);
        asks(inside(1, 1), 0b1010, 1, 2 * 3);
        asks(inside(1, 1), 0b1000, 3, 2 * (1 + 4 + 3));
    }

    /** "only that which comes first to it": the other one of y's comes to nobody, were it ahead of x's. */
    private static void onlyTheFirstIsPassedOn() {
        // r (0) has y (1) at port 1 and x (4) at port 0; u and v come to r by y alone.
        CableElection x = Check.netOf("bus wait 20 delay 4;node r ports 2 force;node y ports 3;node v ports 1;node u ports 1;node x ports 1;"
            + "cable r 1 y 1 long 3;cable y 2 v 0 long 1;cable y 0 u 0 long 2;cable r 0 x 0 long 9;");
        CHECK.due("root(1)", x.root(1), 0);
        // v is at r at 8, u would be at 9, at the tick of x, whose port is the lesser one.
        asks(x, 0b11100, 2, 16);
        asks(x, 0b11000, 4, 18);
        asks(x, 0b01000, 3, 18);
        CHECK.due("turn(28, 1)", x.turn(0b11100, 1), 4);
        CHECK.due("turn(28, 2)", x.turn(0b11100, 2), 3);
        CHECK.due("fair(28)", x.fair(0b11100), 16 + 18 + 18);
    }

    /** Root r (0), y (2) below it with u (3); x (1) below r, too. */
    private static CableElection besides(int delay, int length, int portOfY) {
        CableElection x = Check.netOf("bus wait 20 delay " + delay + ";node r ports 2 force;node x ports 1;node y ports 2;node u ports 1;"
            + "cable r " + portOfY + " y 0 long 1;cable y 1 u 0 long 1;cable r " + (1 - portOfY) + " x 0 long " + length + ";");
        CHECK.due("root(1)", x.root(1), 0);
        return x;
    }

    /** "D more, if it is a CHILD's that is passed on": not for one's own, and not at the root. */
    private static void delayForAChildsAlone() {
        for (int delay : new int[] {0, 1, 9}) {
            CableElection x = besides(delay, 7, 0);
            asks(x, 0b0001, 0, 0);
            asks(x, 0b0010, 1, 14);
            asks(x, 0b0100, 2, 2);
            asks(x, 0b1000, 3, 2 * (2 + delay));
        }
    }

    /** A chain r - y - u below root r, by each order of the three: a child's is one, be its number the lesser or not. */
    private static void delayWhateverTheNumbers() {
        for (String order : new String[] {"ryu", "ruy", "yru", "yur", "ury", "uyr"}) {
            StringBuilder text = new StringBuilder("bus wait 20 delay 6;");
            for (char name : order.toCharArray()) {
                text.append("node ").append(name).append(" ports 2").append(name == 'r' ? " force;" : ";");
            }
            CableElection x = Check.netOf(text + "cable r 0 y 0 long 2;cable y 1 u 0 long 3;");
            int r = order.indexOf('r');
            int y = order.indexOf('y');
            int u = order.indexOf('u');
            CHECK.due("root(0)", x.root(0), r);
            asks(x, 1 << u, u, 2 * (3 + 6 + 2));
            asks(x, 1 << y, y, 2 * 2);
            asks(x, 1 << u | 1 << y, y, 2 * 2);
            CHECK.due("turn, the second", x.turn(1 << u | 1 << y, 1), u);
            CHECK.due("fair(7)", x.fair(7), 4 + 22);
        }
    }

    /** The delay decides between x's and u's: u's is at the root at 2 and the delay. */
    private static void delayDecides() {
        for (int delay = 2; delay <= 4; delay++) {
            asks(besides(delay, 5, 0), 0b1010, delay <= 3 ? 3 : 1, delay <= 3 ? 2 * (2 + delay) : 10);
            asks(besides(delay, 5, 1), 0b1010, delay < 3 ? 3 : 1, delay < 3 ? 2 * (2 + delay) : 10);
        }
    }

    /** A chain of ten below a, which waits and is root; each cable is 1 long. */
    private static CableElection chain(int delay) {
        StringBuilder text = new StringBuilder("bus wait 20 delay " + delay + ";node a ports 2 force;");
        for (char name = 'b'; name <= 'j'; name++) {
            text.append("node ").append(name).append(" ports 2;");
        }
        for (char name = 'a'; name < 'j'; name++) {
            text.append("cable ").append(name).append(" 1 ").append((char) (name + 1)).append(" 0 long 1;");
        }
        CableElection x = Check.netOf(text.toString());
        CHECK.due("root(9)", x.root(9), 0);
        return x;
    }

    /** One delay for each node that passes a child's on. */
    private static void delayForEachPassing() {
        for (int delay : new int[] {0, 9}) {
            CableElection x = chain(delay);
            for (int node = 1; node < 10; node++) {
                asks(x, 1 << node, node, 2 * (node + (node - 1) * delay));
            }
        }
    }

    /** "One that has won goes out; the others ask again, from tick 0." */
    private static void oneThatHasWonGoesOut() {
        CableElection x = chain(9);
        for (int k = 0; k < 10; k++) {
            CHECK.due("turn(1023, " + k + ")", x.turn(1023, k), k);
        }
        CHECK.due("turn(1023, 10)", x.turn(1023, 10), -1);
        CHECK.due("fair(1023)", x.fair(1023), 2 * (45 + 9 * 36));
        // Equal ones go by their ports, one by one.
        x = star(2, 2, 2, 2);
        int[] want = {1, 4, 3, 2, 0};
        for (int k = 0; k < 5; k++) {
            CHECK.due("turn(31, " + k + ")", x.turn(31, k), want[k]);
        }
        CHECK.due("fair(31)", x.fair(31), 4 * 4);
        // y's own held back those of its children: they ask again and are heard then.
        x = inside(1, 1);
        CHECK.due("turn(14, 0)", x.turn(0b1110, 0), 1);
        CHECK.due("turn(14, 1)", x.turn(0b1110, 1), 3);
        CHECK.due("turn(14, 2)", x.turn(0b1110, 2), 2);
        CHECK.due("fair(14)", x.fair(0b1110), 6 + 16 + 16);
    }

    /** Promises 28 to 31: "NONE: none asks"; "0: none asks". */
    private static void nobodyAsks() {
        for (CableElection x : new CableElection[] {star(1, 1, 1, 1), loop(), new CableElection(), Check.netOf("bus wait 0 delay 0;")}) {
            CHECK.due("wins(0)", x.wins(0), -1);
            CHECK.due("grant(0)", x.grant(0), -1);
            CHECK.due("turn(0, 0)", x.turn(0, 0), -1);
            CHECK.due("turn(0, 1)", x.turn(0, 1), -1);
            CHECK.due("fair(0)", x.fair(0), 0);
        }
    }

    private static void refused(CableElection x, int set, int want) {
        CHECK.due("wins(" + set + ")", x.wins(set), want);
        CHECK.due("grant(" + set + ")", x.grant(set), want);
        CHECK.due("turn(" + set + ", 0)", x.turn(set, 0), want);
        CHECK.due("turn(" + set + ", 40)", x.turn(set, 40), want);
        CHECK.due("fair(" + set + ")", x.fair(set), want);
    }

    /** Promise 28: "-2: there are none such": from the first bit behind the last node on. */
    private static void noSuchNodes() {
        CableElection x = star(1, 1, 1, 1);
        asks(x, 1 << 4, 4, 2);
        for (int bit = 5; bit < 32; bit++) {
            refused(x, 1 << bit, -2);
            refused(x, 1 << bit | 0b10, -2);
        }
        refused(x, -1, -2);
        refused(x, ~31, -2);
        x = chain(0);
        asks(x, 1 << 9, 9, 18);
        refused(x, 1 << 10, -2);
        refused(x, 1 << 10 | 1, -2);
        refused(Check.netOf("bus wait 0 delay 0;"), 1, -2);
    }

    /** Promise 28: "they are not of one BUS". */
    private static void notOfOneBus() {
        CableElection x = Check.netOf("bus wait 0 delay 0;node a ports 1;node b ports 1;node c ports 1;node d ports 1;"
            + "cable a 0 c 0 long 1;cable b 0 d 0 long 1;");
        asks(x, 0b0101, 2, 0);
        asks(x, 0b1010, 3, 0);
        asks(x, 0b0001, 0, 2);
        refused(x, 0b0011, -2);
        refused(x, 0b0111, -2);
        refused(x, 0b1111, -2);
        refused(x, 0b1100, -2);
        x.pull(0, 0);
        refused(x, 0b0101, -2);
        asks(x, 0b0001, 0, 0);
    }

    private static CableElection loop() {
        return Check.netOf("bus wait 0 delay 0;node a ports 2;node b ports 3;node c ports 1;node d ports 1;"
            + "cable a 0 b 0 long 1;cable a 1 b 1 long 1;cable b 2 c 0 long 1;");
    }

    /** Promise 28: "-3: a LOOP", for what hangs on it, too; but -2 for those that are not of one bus. */
    private static void inALoop() {
        inALoop(loop());
        // "or more": three cables side by side.
        CableElection x = Check.netOf("bus wait 0 delay 0;node a ports 3;node b ports 4;node c ports 1;node d ports 1;"
            + "cable a 0 b 0 long 1;cable a 1 b 1 long 1;cable b 2 c 0 long 1;");
        x.plug(0, 2, 1, 3, 1);
        refused(x, 0b011, -3);
        refused(x, 0b100, -3);
    }

    private static void inALoop(CableElection x) {
        for (int set : new int[] {0b001, 0b010, 0b100, 0b111}) {
            refused(x, set, -3);
        }
        refused(x, 0b1001, -2);
        refused(x, 0b10001, -2);
        asks(x, 0b1000, 3, 0);
        CHECK.due("turn(1, -1)", x.turn(1, -1), -2);
        x.pull(0, 0);
        CHECK.due("wins(7), the loop is gone", x.wins(7) >= 0 ? 1 : 0, 1);
    }

    /** Promise 30: "NONE: there are not so many; -2 (k below 0, too)". */
    private static void turnBounds() {
        CableElection x = star(1, 2, 3, 4);
        int[] want = {4, 3, 0};
        for (int k = 0; k < 3; k++) {
            CHECK.due("turn(25, " + k + ")", x.turn(0b11001, k), want[k]);
        }
        for (int k : new int[] {3, 4, 5, 31, 32, Integer.MAX_VALUE}) {
            CHECK.due("turn(25, " + k + ")", x.turn(0b11001, k), -1);
        }
        for (int k : new int[] {-1, -2, -32, Integer.MIN_VALUE}) {
            CHECK.due("turn(25, " + k + ")", x.turn(0b11001, k), -2);
            CHECK.due("turn(32, " + k + ")", x.turn(32, k), -2);
        }
        CHECK.due("turn(16, 0) of one", x.turn(16, 0), 4);
        CHECK.due("turn(16, 1) of one", x.turn(16, 1), -1);
    }

    /** Promise 31: the sum; 0 also where the root alone asks. */
    private static void fairBounds() {
        CableElection x = star(1, 2, 3, 4);
        CHECK.due("fair(2)", x.fair(0b00010), 0);
        CHECK.due("fair(1)", x.fair(0b00001), 8);
        CHECK.due("fair(3)", x.fair(0b00011), 8);
        CHECK.due("fair(31)", x.fair(0b11111), 2 + 4 + 6 + 8);
    }

    /** "-2: there are none such": without a net each node is one that is not there. */
    private static void withoutANet() {
        for (int bit = 0; bit < 32; bit++) {
            refused(new CableElection(), 1 << bit, -2);
        }
        CableElection x = star(1, 1, 1, 1);
        x.net();
        refused(x, 1, -2);
    }

    /** To ask, fine or refused, is no act. */
    private static void askingChangesNothing() {
        Check.Calls before = x -> {
            Check.tell(x, "bus wait 20 delay 4;node r ports 1 force;node y ports 3;node v ports 1;node u ports 1;"
                + "cable r 0 y 1 long 3;cable y 2 v 0 long 1;");
            x.net();
            x.plug(3, 0, 1, 0, 2);
        };
        CHECK.nothingHappens("asking", before, x -> {
            for (int set : new int[] {0, 1, 15, 14, 16, -1}) {
                x.wins(set);
                x.grant(set);
                x.turn(set, 2);
                x.turn(set, -1);
                x.fair(set);
            }
        });
    }
}
