import java.nio.charset.StandardCharsets;
import java.nio.file.Path;
import java.util.ArrayList;
import java.util.List;

/** What the tests share: telling a text to an object, and counting answers that are not due. */
final class Check {
    /** Some calls on an object. */
    interface Calls {
        void on(CableElection x);
    }

    private final String title;
    private int checks = 0;
    private int wrong = 0;

    Check(String title) {
        this.title = title;
    }

    void due(String call, int got, int want) {
        checks++;
        if (got != want) {
            wrong++;
            if (wrong <= 50) {
                System.out.println(title + ": " + call + " answered " + got + ", due is " + want);
            }
        }
    }

    boolean isFine() {
        return wrong == 0;
    }

    /** Where README.md and src are: .ci/run says so; by hand the tests are run from there. */
    static Path project() {
        return Path.of(System.getProperty("project", "."));
    }

    void close() {
        System.out.println(title + ": " + checks + " answers, " + wrong + " not as due");
        if (wrong != 0) {
            System.exit(1);
        }
    }

    static void tell(CableElection x, String text) {
        tell(x, text.getBytes(StandardCharsets.ISO_8859_1));
    }

    /** Feeds a text in twenties and cuts off what the last one has too much. */
    static void tell(CableElection x, byte[] bytes) {
        int before = x.count(6);
        for (int at = 0; at < bytes.length; at += 20) {
            x.feed(four(bytes, at), four(bytes, at + 4), four(bytes, at + 8), four(bytes, at + 12), four(bytes, at + 16));
        }
        x.end(before + bytes.length);
    }

    static int four(byte[] bytes, int at) {
        int number = 0;
        for (int i = at; i < at + 4; i++) {
            number = number << 8 | (i < bytes.length ? bytes[i] & 255 : 0);
        }
        return number;
    }

    static CableElection netOf(String text) {
        CableElection x = new CableElection();
        tell(x, text);
        if (x.net() < 0) {
            throw new IllegalStateException("a test's text is faulty at " + x.fault(1) + ": " + text);
        }
        return x;
    }

    /** A text that must be refused, with its fault and the fault's place. */
    void refused(String text, int fault, int place) {
        CableElection x = new CableElection();
        tell(x, text);
        due("net() of " + text, x.net(), -4);
        due("fault(0) of " + text, x.fault(0), fault);
        due("fault(1) of " + text, x.fault(1), place);
        due("count(6) behind " + text, x.count(6), 0);
    }

    void refusedPackets(String text, int fault, int place) {
        CableElection x = new CableElection();
        tell(x, text);
        due("packets() of " + text, x.packets(), -4);
        due("fault(0) of " + text, x.fault(0), fault);
        due("fault(1) of " + text, x.fault(1), place);
        due("count(6) behind " + text, x.count(6), 0);
    }

    /** A text whose first fault lies where its second part begins. */
    void refusedFrom(String ahead, String from, int fault) {
        refused(ahead + from, fault, ahead.length());
    }

    void refusedPacketsFrom(String ahead, String from, int fault) {
        refusedPackets(ahead + from, fault, ahead.length());
    }

    /** A text that must be taken, with the number of its lines. */
    CableElection accepted(String text, int lines) {
        CableElection x = new CableElection();
        tell(x, text);
        due("net() of " + text, x.net(), lines);
        due("fault(0) of " + text, x.fault(0), 0);
        due("fault(1) of " + text, x.fault(1), -1);
        due("count(5) of " + text, x.count(5), lines);
        due("count(6) behind " + text, x.count(6), 0);
        return x;
    }

    CableElection acceptedPackets(String text, int many) {
        CableElection x = new CableElection();
        tell(x, text);
        due("packets() of " + text, x.packets(), many);
        due("fault(0) of " + text, x.fault(0), 0);
        due("fault(1) of " + text, x.fault(1), -1);
        due("count(6) behind " + text, x.count(6), 0);
        return x;
    }

    /**
     * Of two objects with the same calls behind them one has a refused call more: all later calls
     * must answer alike. The nets here have four nodes at most, so that 512 calls are not used up.
     */
    void nothingHappens(String what, Calls before, Calls refused) {
        CableElection one = new CableElection();
        CableElection two = new CableElection();
        before.on(one);
        before.on(two);
        refused.on(two);
        List<String> calls = new ArrayList<>();
        List<Integer> as = answers(one, calls);
        List<Integer> now = answers(two, new ArrayList<>());
        for (int i = 0; i < as.size(); i++) {
            due(calls.get(i) + " behind " + what, now.get(i), as.get(i));
        }
    }

    private static List<Integer> answers(CableElection x, List<String> calls) {
        List<Integer> found = new ArrayList<>();
        int nodes = x.count(0);
        for (int node = -1; node <= nodes; node++) {
            askOfNode(x, node, found, calls);
        }
        for (int set = 0; set <= 1 << nodes; set++) {
            add(found, calls, "wins(" + set + ")", x.wins(set));
            add(found, calls, "grant(" + set + ")", x.grant(set));
        }
        for (int i = 0; i < 4; i++) {
            for (int what = 0; what < 5; what++) {
                add(found, calls, "built(" + i + ", " + what + ")", x.built(i, what));
            }
        }
        askOfNet(x, found, calls);
        add(found, calls, "undo()", x.undo());
        askOfNet(x, found, calls);
        add(found, calls, "anew()", x.anew());
        askOfNet(x, found, calls);
        return found;
    }

    private static void add(List<Integer> found, List<String> calls, String call, int answer) {
        found.add(answer);
        calls.add(call);
    }

    private static void askOfNode(CableElection x, int node, List<Integer> found, List<String> calls) {
        int[] all = {x.root(node), x.settled(node), x.called(node), x.rounds(node), x.taken(node), x.id(node), x.size(node),
            x.parent(node), x.depth(node), x.below(node), x.longest(node), x.gap(node), x.centre(node), x.unlike(node),
            x.rootBy(node), x.spare(node), x.named(node, 0), x.named(node, 1), x.way(node, 0), x.hops(0, node)};
        for (int i = 0; i < all.length; i++) {
            add(found, calls, "question " + i + " of node " + node, all[i]);
        }
        for (int port = 0; port < 4; port++) {
            add(found, calls, "packet(" + node + ", " + port + ")", x.packet(node, port));
            add(found, calls, "cutting(" + node + ", " + port + ")", x.cutting(node, port));
        }
    }

    private static void askOfNet(CableElection x, List<Integer> found, List<String> calls) {
        for (int what = 0; what < 9; what++) {
            // The tape has a test of its own: a faulty text leaves it empty.
            if (what != 6) {
                add(found, calls, "count(" + what + ")", x.count(what));
            }
        }
        add(found, calls, "bridges()", x.bridges());
        for (int node = 0; node < x.count(0); node++) {
            for (int port = 0; port < 3; port++) {
                add(found, calls, "port(" + node + ", " + port + ", 1)", x.port(node, port, 1));
                add(found, calls, "port(" + node + ", " + port + ", 3)", x.port(node, port, 3));
            }
        }
    }
}
