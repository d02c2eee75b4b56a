/** Promises 28 to 31: who is granted first, and when. */
public final class AskTest {
    private static final Check CHECK = new Check("AskTest");

    /**
     * Root r (0), with x (1) at port 0, 4 long, and y (2) at port 1, 2 long; below y: u (3) at
     * its port 1, 1 long, and v (4) at its port 2, 1 long. s (5) is alone.
     */
    private static final String TREE = "bus wait 20 delay 1;node r ports 2 force;node x ports 1;node y ports 3;node u ports 1;node v ports 1;"
        + "node s ports 1;cable r 0 x 0 long 4;cable r 1 y 0 long 2;cable y 1 u 0 long 1;cable y 2 v 0 long 1;";

    public static void main(String[] args) {
        firstAndGrant();
        oneOfTwoAtOneTick();
        onlyTheFirstIsPassedOn();
        turns();
        refusals();
        CHECK.close();
    }

    private static void asks(CableElection x, int set, int winner, int tick) {
        CHECK.due("wins(" + set + ")", x.wins(set), winner);
        CHECK.due("grant(" + set + ")", x.grant(set), tick);
    }

    private static void firstAndGrant() {
        CableElection x = Check.netOf(TREE);
        CHECK.due("root(0)", x.root(0), 0);
        asks(x, 1, 0, 0);
        asks(x, 1 << 1, 1, 8);
        asks(x, 1 << 2, 2, 4);
        // u's goes 1 to y, and 2 and the delay from there.
        asks(x, 1 << 3, 3, 8);
        asks(x, 0b11111, 0, 0);
        asks(x, 0b11110, 2, 4);
        asks(x, 1 << 5, 5, 0);
        CHECK.due("grant(2) by itself", x.grant(2), 8);
        CHECK.due("wins(4) behind it", x.wins(4), 2);
    }

    private static void oneOfTwoAtOneTick() {
        CableElection x = Check.netOf(TREE);
        // u and v come to y at one tick: the lesser port.
        asks(x, 0b11000, 3, 8);
        // x comes to r at 4 as u does: the lesser port of r is x's.
        asks(x, 0b01010, 1, 8);
    }

    private static void onlyTheFirstIsPassedOn() {
        // m is asked by p at 1 and asks itself at 0: its own goes on, without the delay.
        CableElection x = Check.netOf("bus wait 20 delay 9;node r ports 1 force;node m ports 2;node p ports 1;"
            + "cable r 0 m 0 long 3;cable m 1 p 0 long 1;");
        CHECK.due("root(2)", x.root(2), 0);
        asks(x, 0b110, 1, 6);
        asks(x, 0b100, 2, 2 * (1 + 3 + 9));
    }

    private static void turns() {
        CableElection x = Check.netOf(TREE);
        int[] want = {0, 2, 1, 3, 4, -1, -1};
        for (int k = 0; k < want.length; k++) {
            CHECK.due("turn(31, " + k + ")", x.turn(31, k), want[k]);
        }
        CHECK.due("fair(31)", x.fair(31), 0 + 4 + 8 + 8 + 8);
        CHECK.due("turn(24, 0)", x.turn(24, 0), 3);
        CHECK.due("turn(24, 1)", x.turn(24, 1), 4);
        CHECK.due("turn(24, 2)", x.turn(24, 2), -1);
        CHECK.due("turn(24, max)", x.turn(24, Integer.MAX_VALUE), -1);
        CHECK.due("fair(24)", x.fair(24), 16);
        CHECK.due("fair(32)", x.fair(32), 0);
        CHECK.due("turn(32, 0)", x.turn(32, 0), 5);
    }

    private static void refusals() {
        CableElection x = Check.netOf(TREE);
        CHECK.due("wins(0)", x.wins(0), -1);
        CHECK.due("grant(0)", x.grant(0), -1);
        CHECK.due("turn(0, 0)", x.turn(0, 0), -1);
        CHECK.due("turn(0, -1)", x.turn(0, -1), -2);
        CHECK.due("fair(0)", x.fair(0), 0);
        for (int set : new int[] {64, 65, 33, 63, -1, Integer.MIN_VALUE, 1 << 30}) {
            CHECK.due("wins(" + set + ")", x.wins(set), -2);
            CHECK.due("grant(" + set + ")", x.grant(set), -2);
            CHECK.due("turn(" + set + ", 0)", x.turn(set, 0), -2);
            CHECK.due("fair(" + set + ")", x.fair(set), -2);
        }
        CHECK.due("turn(1, -1)", x.turn(1, -1), -2);
        CHECK.due("turn(1, min)", x.turn(1, Integer.MIN_VALUE), -2);
        CableElection loop = Check.netOf("bus wait 0 delay 0;node a ports 2;node b ports 2;node c ports 1;cable a 0 b 0 long 1;cable a 1 b 1 long 1;");
        CHECK.due("wins(1) in a loop", loop.wins(1), -3);
        CHECK.due("grant(3) in a loop", loop.grant(3), -3);
        CHECK.due("turn(3, 0) in a loop", loop.turn(3, 0), -3);
        CHECK.due("turn(3, -1) in a loop", loop.turn(3, -1), -2);
        CHECK.due("fair(2) in a loop", loop.fair(2), -3);
        CHECK.due("wins(7), two buses", loop.wins(7), -2);
        CHECK.due("wins(4) beside a loop", loop.wins(4), 2);
        CHECK.due("wins(0) beside a loop", loop.wins(0), -1);
        CableElection none = new CableElection();
        CHECK.due("wins(1) without a net", none.wins(1), -2);
        CHECK.due("fair(0) without a net", none.fair(0), 0);
    }
}
