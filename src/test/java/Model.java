import java.util.ArrayList;
import java.util.Arrays;
import java.util.List;
import java.util.TreeMap;

/**
 * The document once more, as literally and as slowly as it can be said: every tick is lived
 * through, every answer is worked out anew, an act copies the whole net. The class is compared
 * with it over many runs.
 */
final class Model {
    static final class Cable {
        int a, ap, b, bp, length;

        Cable(int a, int ap, int b, int bp, int length) {
            this.a = a;
            this.ap = ap;
            this.b = b;
            this.bp = bp;
            this.length = length;
        }

        boolean at(int node, int port) {
            return a == node && ap == port || b == node && bp == port;
        }

        int otherNode(int node) {
            return a == node ? b : a;
        }

        int portAt(int node) {
            return a == node ? ap : bp;
        }

        /** The lesser node and its port, as spare() tells a cable. */
        int code() {
            return a < b ? 10 * a + ap : 10 * b + bp;
        }
    }

    static final class Wires {
        int lines, wait, delay;
        List<String> names = new ArrayList<>();
        List<Integer> ports = new ArrayList<>();
        List<Boolean> forced = new ArrayList<>();
        List<String> coins = new ArrayList<>();
        List<Cable> cables = new ArrayList<>();

        Wires copy() {
            Wires w = new Wires();
            w.lines = lines;
            w.wait = wait;
            w.delay = delay;
            w.names.addAll(names);
            w.ports.addAll(ports);
            w.forced.addAll(forced);
            w.coins.addAll(coins);
            w.cables.addAll(cables);
            return w;
        }

        int nodes() {
            return ports.size();
        }

        boolean has(int node) {
            return node >= 0 && node < nodes();
        }

        boolean has(int node, int port) {
            return has(node) && port >= 0 && port < ports.get(node);
        }

        Cable cable(int node, int port) {
            for (Cable c : cables) {
                if (c.at(node, port)) {
                    return c;
                }
            }
            return null;
        }

        List<Integer> bus(int node) {
            boolean[] in = new boolean[nodes()];
            in[node] = true;
            for (int again = 0; again < nodes(); again++) {
                for (Cable c : cables) {
                    if (in[c.a] || in[c.b]) {
                        in[c.a] = true;
                        in[c.b] = true;
                    }
                }
            }
            List<Integer> bus = new ArrayList<>();
            for (int i = 0; i < nodes(); i++) {
                if (in[i]) {
                    bus.add(i);
                }
            }
            return bus;
        }

        boolean loop(int node) {
            List<Integer> bus = bus(node);
            int found = 0;
            for (Cable c : cables) {
                if (bus.contains(c.a)) {
                    found++;
                }
            }
            return found >= bus.size();
        }

        int buses(boolean loopsAlone) {
            int found = 0;
            for (int i = 0; i < nodes(); i++) {
                if (bus(i).get(0) == i && (!loopsAlone || loop(i))) {
                    found++;
                }
            }
            return found;
        }

        /** The cables of the way between two nodes of a bus without a loop; null if there is none. */
        List<Cable> path(int from, int to, Cable by) {
            if (from == to) {
                return new ArrayList<>();
            }
            for (Cable c : cables) {
                if (c != by && (c.a == from || c.b == from)) {
                    List<Cable> rest = path(c.otherNode(from), to, c);
                    if (rest != null) {
                        rest.add(0, c);
                        return rest;
                    }
                }
            }
            return null;
        }

        int delayOf(int from, int to) {
            List<Cable> path = path(from, to, null);
            int sum = 0;
            for (Cable c : path) {
                sum += c.length;
            }
            return sum + Math.max(0, path.size() - 1) * delay;
        }

        int eccentricity(int node) {
            int most = 0;
            for (int other : bus(node)) {
                most = Math.max(most, delayOf(node, other));
            }
            return most;
        }

        int longestOf(int node) {
            int most = 0;
            for (int other : bus(node)) {
                most = Math.max(most, eccentricity(other));
            }
            return most;
        }

        int gapOf(int node) {
            int g = 0;
            while (8 * g < 2 * longestOf(node) + 5) {
                g++;
            }
            return g;
        }
    }

    /** An election lived through tick by tick. */
    static final class Vote {
        final Wires w;
        final int[] calledAt, calledPort, rootAt, taken, rounds;
        final boolean[] root;

        Vote(Wires w) {
            this.w = w;
            int n = w.nodes();
            calledAt = new int[n];
            calledPort = new int[n];
            rootAt = new int[n];
            taken = new int[n];
            rounds = new int[n];
            root = new boolean[n];
            Arrays.fill(calledAt, -1);
            Arrays.fill(calledPort, -1);
            Arrays.fill(rootAt, -1);
            live();
        }

        private void live() {
            int n = w.nodes();
            boolean[][] heard = new boolean[n][4];
            int[] soSince = new int[n];
            Arrays.fill(soSince, -1);
            TreeMap<Integer, List<int[]>> coming = new TreeMap<>();
            for (int tick = 0; tick < 1000; tick++) {
                for (int[] call : coming.getOrDefault(tick, List.of())) {
                    heard[call[0]][call[1]] = true;
                }
                for (int node = 0; node < n; node++) {
                    if (calledAt[node] >= 0 || root[node]) {
                        continue;
                    }
                    List<Integer> silent = new ArrayList<>();
                    for (int p = 0; p < w.ports.get(node); p++) {
                        if (w.cable(node, p) != null && !heard[node][p]) {
                            silent.add(p);
                        }
                    }
                    if (silent.isEmpty()) {
                        root[node] = true;
                        rootAt[node] = tick;
                    } else if (silent.size() == 1) {
                        if (soSince[node] < 0) {
                            soSince[node] = tick;
                        }
                        if (!w.forced.get(node) || tick == soSince[node] + w.wait) {
                            calledAt[node] = tick;
                            calledPort[node] = silent.get(0);
                            Cable c = w.cable(node, silent.get(0));
                            int other = c.otherNode(node);
                            coming.computeIfAbsent(tick + c.length, t -> new ArrayList<>()).add(new int[] {other, c.portAt(other)});
                        }
                    }
                }
            }
            for (Cable c : w.cables) {
                if (calledPort[c.a] == c.ap && calledPort[c.b] == c.bp) {
                    settle(c);
                }
            }
        }

        private void settle(Cable c) {
            int tick = Math.max(calledAt[c.a], calledAt[c.b]) + c.length;
            String one = w.coins.get(c.a);
            String two = w.coins.get(c.b);
            int winner = -1;
            for (int i = 0; i < 10 && winner < 0; i++) {
                char x = one.charAt(i % one.length());
                char y = two.charAt(i % two.length());
                taken[c.a]++;
                taken[c.b]++;
                for (int node : w.bus(c.a)) {
                    rounds[node]++;
                }
                if (x != y) {
                    winner = x == '1' ? c.a : c.b;
                    tick += 2 * c.length + 6;
                } else {
                    tick += 2 * c.length + (x == '0' ? 2 : 6);
                }
            }
            winner = winner < 0 ? Math.max(c.a, c.b) : winner;
            root[winner] = true;
            rootAt[winner] = tick;
        }

        int rootOf(int node) {
            for (int other : w.bus(node)) {
                if (root[other]) {
                    return other;
                }
            }
            return -1;
        }

        boolean toParent(int node, int port) {
            return calledPort[node] == port && !root[node];
        }

        int role(int node, int port) {
            Cable c = w.cable(node, port);
            if (c == null) {
                return 0;
            }
            if (toParent(node, port)) {
                return 1;
            }
            int other = c.otherNode(node);
            return toParent(other, c.portAt(other)) ? 2 : 3;
        }

        int parentOf(int node) {
            for (int p = 0; p < w.ports.get(node); p++) {
                if (role(node, p) == 1) {
                    return w.cable(node, p).otherNode(node);
                }
            }
            return -1;
        }

        void order(int node, List<Integer> into) {
            for (int p = 0; p < w.ports.get(node); p++) {
                if (role(node, p) == 2) {
                    order(w.cable(node, p).otherNode(node), into);
                }
            }
            into.add(node);
        }

        List<Integer> ids(int node) {
            List<Integer> ids = new ArrayList<>();
            order(rootOf(node), ids);
            return ids;
        }

        String packetOf(int node) {
            StringBuilder letters = new StringBuilder();
            for (int p = 0; p < w.ports.get(node); p++) {
                letters.append("npc".charAt(role(node, p)));
            }
            return letters.toString();
        }

        int belowOf(int node) {
            List<Integer> all = new ArrayList<>();
            order(node, all);
            return all.size();
        }

        /** Who wins of a set and when its grant is there, lived through tick by tick. */
        int[] ask(int set, int someNode) {
            int top = rootOf(someNode);
            boolean[] passed = new boolean[w.nodes()];
            List<int[]> under = new ArrayList<>();
            for (int tick = 0; tick < 1000; tick++) {
                for (int node : w.bus(someNode)) {
                    if (passed[node]) {
                        continue;
                    }
                    int who = -1;
                    boolean own = tick == 0 && (set >> node & 1) == 1;
                    if (own) {
                        who = node;
                    } else {
                        int least = 9;
                        for (int[] m : under) {
                            if (m[0] == tick && m[1] == node && m[2] < least) {
                                least = m[2];
                                who = m[3];
                            }
                        }
                    }
                    if (who < 0) {
                        continue;
                    }
                    passed[node] = true;
                    if (node == top) {
                        return new int[] {who, 2 * tick};
                    }
                    Cable c = w.cable(node, calledPort[node]);
                    int above = c.otherNode(node);
                    under.add(new int[] {tick + c.length + (own ? 0 : w.delay), above, c.portAt(above), who});
                }
            }
            return new int[] {-1, -1};
        }
    }

    private static final class Fault extends RuntimeException {
        private static final long serialVersionUID = 1L;
        final int kind, place;

        Fault(int kind, int place) {
            super("fault");
            this.kind = kind;
            this.place = place;
        }
    }

    private record Token(char kind, String text, int place) {
        boolean is(String word) {
            return kind == 'w' && text.equals(word);
        }
    }

    private byte[] tape = new byte[0];
    private Wires now = new Wires();
    private final List<Wires> former = new ArrayList<>();
    private List<String> told = new ArrayList<>();
    private int fault = 0;
    private int place = -1;
    private List<Token> tokens;
    private int at;

    private List<Token> split() {
        List<Token> found = new ArrayList<>();
        String s = new String(tape, java.nio.charset.StandardCharsets.ISO_8859_1);
        java.util.regex.Matcher m = java.util.regex.Pattern.compile("[ \\n]+|([a-z]+)|([0-9]+)|(;)|([\\x00-\\xff])").matcher(s);
        while (m.find()) {
            if (m.group(1) != null) {
                found.add(new Token('w', m.group(1), m.start()));
            } else if (m.group(2) != null) {
                found.add(new Token('n', m.group(2), m.start()));
            } else if (m.group(3) != null) {
                found.add(new Token(';', ";", m.start()));
            } else if (m.group(4) != null) {
                found.add(new Token('?', m.group(4), m.start()));
            }
        }
        found.add(new Token('.', "", tape.length));
        return found;
    }

    private Token peek() {
        return tokens.get(at);
    }

    private Token take(char kind) {
        Token t = peek();
        if (t.kind != kind) {
            throw new Fault(1, t.place);
        }
        at++;
        return t;
    }

    private void word(String word) {
        if (!peek().is(word)) {
            throw new Fault(1, peek().place);
        }
        at++;
    }

    private int number(int least, int most) {
        Token t = take('n');
        java.math.BigInteger value = new java.math.BigInteger(t.text);
        if (value.compareTo(java.math.BigInteger.valueOf(least)) < 0 || value.compareTo(java.math.BigInteger.valueOf(most)) > 0) {
            throw new Fault(2, t.place);
        }
        return value.intValue();
    }

    private Wires parse() {
        Wires w = new Wires();
        while (peek().kind != '.') {
            if (w.lines == 0) {
                word("bus");
                word("wait");
                w.wait = number(0, 20);
                word("delay");
                w.delay = number(0, 9);
            } else if (peek().is("node")) {
                node(w);
            } else if (peek().is("cable")) {
                cable(w);
            } else {
                throw new Fault(1, peek().place);
            }
            take(';');
            w.lines++;
        }
        return w;
    }

    private void node(Wires w) {
        if (w.nodes() == 10) {
            throw new Fault(3, peek().place);
        }
        at++;
        Token name = take('w');
        if (name.text.length() > 6 || List.of("bus", "node", "cable", "force", "coins").contains(name.text) || w.names.contains(name.text)) {
            throw new Fault(2, name.place);
        }
        word("ports");
        int ports = number(1, 4);
        boolean forced = peek().is("force");
        if (forced) {
            at++;
        }
        String coins = "0";
        if (peek().is("coins")) {
            at++;
            Token b = take('n');
            if (!b.text.matches("[01]{1,8}")) {
                throw new Fault(2, b.place);
            }
            coins = b.text;
        }
        w.names.add(name.text);
        w.ports.add(ports);
        w.forced.add(forced);
        w.coins.add(coins);
    }

    private int portOf(Wires w, int node) {
        Token t = peek();
        int port = number(0, w.ports.get(node) - 1);
        if (w.cable(node, port) != null) {
            throw new Fault(2, t.place);
        }
        return port;
    }

    private void cable(Wires w) {
        if (w.cables.size() == 15) {
            throw new Fault(3, peek().place);
        }
        at++;
        Token one = take('w');
        int a = w.names.indexOf(one.text);
        if (a < 0) {
            throw new Fault(2, one.place);
        }
        int ap = portOf(w, a);
        Token two = take('w');
        int b = w.names.indexOf(two.text);
        if (b < 0 || b == a) {
            throw new Fault(2, two.place);
        }
        int bp = portOf(w, b);
        word("long");
        w.cables.add(new Cable(a, ap, b, bp, number(1, 9)));
    }

    int feed(int a, int b, int c, int d, int e) {
        if (tape.length + 20 > 700) {
            return -1;
        }
        java.nio.ByteBuffer more = java.nio.ByteBuffer.allocate(tape.length + 20);
        tape = more.put(tape).putInt(a).putInt(b).putInt(c).putInt(d).putInt(e).array();
        return tape.length;
    }

    int end(int n) {
        if (n < 0 || n > tape.length) {
            return -1;
        }
        tape = Arrays.copyOf(tape, n);
        return n;
    }

    int net() {
        tokens = split();
        at = 0;
        tape = new byte[0];
        fault = 0;
        place = -1;
        try {
            now = parse();
            former.clear();
            return now.lines;
        } catch (Fault f) {
            fault = f.kind;
            place = f.place;
            return -4;
        }
    }

    int fault(int what) {
        return what == 0 ? fault : what == 1 ? place : -1;
    }

    int count(int what) {
        return switch (what) {
            case 0 -> now.nodes();
            case 1 -> now.cables.size();
            case 2 -> now.wait;
            case 3 -> now.delay;
            case 4 -> former.size();
            case 5 -> now.lines;
            case 6 -> tape.length;
            case 7 -> now.buses(false);
            case 8 -> now.buses(true);
            default -> -1;
        };
    }

    int port(int node, int port, int what) {
        if (!now.has(node, port) || what < 0 || what > 3) {
            return -2;
        }
        Cable c = now.cable(node, port);
        if (what == 0) {
            return new Vote(now).role(node, port);
        }
        if (c == null) {
            return -1;
        }
        int other = c.otherNode(node);
        return what == 1 ? other : what == 2 ? c.portAt(other) : c.length;
    }

    /** -2, -1, or 0 if there is an answer. */
    private int bar(int node) {
        return !now.has(node) ? -2 : now.loop(node) ? -1 : 0;
    }

    int root(int node) {
        return bar(node) < 0 ? bar(node) : new Vote(now).rootOf(node);
    }

    int settled(int node) {
        Vote v = new Vote(now);
        return bar(node) < 0 ? bar(node) : v.rootAt[v.rootOf(node)];
    }

    int called(int node) {
        return now.has(node) ? new Vote(now).calledAt[node] : -2;
    }

    int rounds(int node) {
        return bar(node) < 0 ? bar(node) : new Vote(now).rounds[node];
    }

    int taken(int node) {
        return now.has(node) ? new Vote(now).taken[node] : -2;
    }

    int id(int node) {
        return bar(node) < 0 ? bar(node) : new Vote(now).ids(node).indexOf(node);
    }

    int named(int node, int id) {
        if (bar(node) < 0) {
            return bar(node);
        }
        List<Integer> ids = new Vote(now).ids(node);
        return id < 0 || id >= ids.size() ? -1 : ids.get(id);
    }

    int size(int node) {
        return now.has(node) ? now.bus(node).size() : -2;
    }

    int parent(int node) {
        return bar(node) < 0 ? bar(node) : new Vote(now).parentOf(node);
    }

    int depth(int node) {
        return bar(node) < 0 ? bar(node) : now.path(node, new Vote(now).rootOf(node), null).size();
    }

    int below(int node) {
        return bar(node) < 0 ? bar(node) : new Vote(now).belowOf(node);
    }

    private int wayBar(int node, int other) {
        if (!now.has(node) || !now.has(other)) {
            return -2;
        }
        return !now.bus(node).contains(other) || now.loop(node) ? -1 : 0;
    }

    int way(int node, int other) {
        int bar = wayBar(node, other);
        return bar < 0 ? bar : now.delayOf(node, other);
    }

    int hops(int node, int other) {
        int bar = wayBar(node, other);
        return bar < 0 ? bar : now.path(node, other, null).size();
    }

    int longest(int node) {
        return bar(node) < 0 ? bar(node) : now.longestOf(node);
    }

    int gap(int node) {
        return bar(node) < 0 ? bar(node) : now.gapOf(node);
    }

    int centre(int node) {
        if (bar(node) < 0) {
            return bar(node);
        }
        int best = -1;
        for (int other : now.bus(node)) {
            if (best < 0 || now.eccentricity(other) < now.eccentricity(best)) {
                best = other;
            }
        }
        return best;
    }

    int packet(int node, int i) {
        if (!now.has(node) || i < 0) {
            return -2;
        }
        if (now.loop(node) || i >= now.ports.get(node)) {
            return -1;
        }
        return "npc".indexOf(new Vote(now).packetOf(node).charAt(i));
    }

    int packets() {
        tokens = split();
        at = 0;
        tape = new byte[0];
        fault = 0;
        place = -1;
        try {
            told = parsePackets();
            return told.size();
        } catch (Fault f) {
            fault = f.kind;
            place = f.place;
            return -4;
        }
    }

    private static int letters(String word, char letter) {
        return (int) word.chars().filter(c -> c == letter).count();
    }

    private List<String> parsePackets() {
        List<String> found = new ArrayList<>();
        int without = 0;
        boolean rooted = false;
        while (peek().kind != '.') {
            Token t = take('w');
            if (!t.text.matches("[npc]{1,4}") || letters(t.text, 'p') > 1) {
                throw new Fault(1, t.place);
            }
            boolean top = letters(t.text, 'p') == 0;
            int c = letters(t.text, 'c');
            if (c > without || top && c < without) {
                throw new Fault(2, t.place);
            }
            if (found.size() == 12 || rooted) {
                throw new Fault(3, t.place);
            }
            without += 1 - c;
            rooted = top;
            found.add(t.text);
            take(';');
        }
        if (!found.isEmpty() && !rooted) {
            throw new Fault(4, peek().place);
        }
        return found;
    }

    /** The parent of a packet and the port there: the first later packet that reaches back to it. */
    private int[] above(int i) {
        List<Integer> without = new ArrayList<>();
        for (int k = 0; k < told.size(); k++) {
            String word = told.get(k);
            for (int p = word.length() - 1; p >= 0; p--) {
                if (word.charAt(p) == 'c') {
                    int child = without.remove(without.size() - 1);
                    if (child == i) {
                        return new int[] {k, p};
                    }
                }
            }
            without.add(k);
        }
        return new int[] {-1, -1};
    }

    int built(int i, int what) {
        if (i < 0 || i >= told.size() || what < 0 || what > 4) {
            return -2;
        }
        switch (what) {
            case 0:
                return above(i)[0];
            case 1:
                return told.get(i).indexOf('p');
            case 2:
                return above(i)[1];
            case 3:
                return letters(told.get(i), 'c');
            default:
                return above(i)[0] < 0 ? 0 : 1 + built(above(i)[0], 4);
        }
    }

    int unlike(int node) {
        if (bar(node) < 0) {
            return bar(node);
        }
        Vote v = new Vote(now);
        List<Integer> ids = v.ids(node);
        int found = 0;
        for (int i = 0; i < Math.max(ids.size(), told.size()); i++) {
            String one = i < ids.size() ? v.packetOf(ids.get(i)) : "";
            String two = i < told.size() ? told.get(i) : "";
            for (int k = 0; k < Math.max(one.length(), two.length()); k++) {
                if (k >= one.length() || k >= two.length() || one.charAt(k) != two.charAt(k)) {
                    found++;
                }
            }
        }
        return found;
    }

    private int setBar(int set) {
        List<Integer> in = new ArrayList<>();
        for (int i = 0; i < 32; i++) {
            if ((set >>> i & 1) == 1) {
                in.add(i);
            }
        }
        for (int node : in) {
            if (!now.has(node)) {
                return -2;
            }
        }
        for (int node : in) {
            if (!now.bus(in.get(0)).contains(node)) {
                return -2;
            }
        }
        return in.isEmpty() ? -1 : now.loop(in.get(0)) ? -3 : 0;
    }

    /** Winner and grant of each turn. */
    private List<int[]> turns(int set) {
        List<int[]> found = new ArrayList<>();
        Vote v = new Vote(now);
        int left = set;
        while (left != 0) {
            int[] one = v.ask(left, Integer.numberOfTrailingZeros(set));
            found.add(one);
            left &= ~(1 << one[0]);
        }
        return found;
    }

    int wins(int set) {
        return setBar(set) < 0 ? setBar(set) : turns(set).get(0)[0];
    }

    int grant(int set) {
        return setBar(set) < 0 ? setBar(set) : turns(set).get(0)[1];
    }

    int turn(int set, int k) {
        if (k < 0) {
            return -2;
        }
        if (setBar(set) < 0) {
            return setBar(set);
        }
        List<int[]> turns = turns(set);
        return k < turns.size() ? turns.get(k)[0] : -1;
    }

    int fair(int set) {
        if (setBar(set) < 0) {
            return setBar(set) == -1 ? 0 : setBar(set);
        }
        int sum = 0;
        for (int[] one : turns(set)) {
            sum += one[1];
        }
        return sum;
    }

    int rootBy(int node) {
        if (bar(node) < 0) {
            return bar(node);
        }
        Wires w = now.copy();
        w.forced.set(node, true);
        return new Vote(w).rootOf(node);
    }

    private Wires less(Cable c) {
        Wires w = now.copy();
        w.cables.remove(c);
        return w;
    }

    int cutting(int node, int port) {
        if (!now.has(node, port) || now.cable(node, port) == null) {
            return -2;
        }
        return less(now.cable(node, port)).bus(node).size();
    }

    int bridges() {
        if (now.lines == 0) {
            return -2;
        }
        int found = 0;
        for (Cable c : now.cables) {
            if (less(c).buses(false) > now.buses(false)) {
                found++;
            }
        }
        return found;
    }

    int spare(int node) {
        if (!now.has(node)) {
            return -2;
        }
        int best = -1;
        int least = now.loop(node) ? Integer.MAX_VALUE : now.gapOf(node);
        List<Cable> byCode = new ArrayList<>(now.cables);
        byCode.sort((one, two) -> one.code() - two.code());
        for (Cable c : byCode) {
            Wires w = less(c);
            if (now.bus(node).contains(c.a) && w.bus(c.a).contains(c.b) && !w.loop(node) && w.gapOf(node) < least) {
                least = w.gapOf(node);
                best = c.code();
            }
        }
        return best;
    }

    private Wires act() {
        former.add(now);
        now = now.copy();
        return now;
    }

    int plug(int node, int port, int other, int there, int length) {
        if (!now.has(node, port) || !now.has(other, there) || node == other || length < 1 || length > 9) {
            return -2;
        }
        if (now.cable(node, port) != null || now.cable(other, there) != null || former.size() == 20) {
            return -5;
        }
        act().cables.add(new Cable(node, port, other, there, length));
        return now.buses(false);
    }

    int pull(int node, int port) {
        if (!now.has(node, port)) {
            return -2;
        }
        Cable c = now.cable(node, port);
        if (c == null || former.size() == 20) {
            return -5;
        }
        act().cables.remove(c);
        return now.buses(false);
    }

    int force(int node, int is) {
        if (!now.has(node) || is != 0 && is != 1) {
            return -2;
        }
        if (now.forced.get(node) == (is == 1) || former.size() == 20) {
            return -5;
        }
        act().forced.set(node, is == 1);
        return root(node);
    }

    int undo() {
        if (now.lines == 0) {
            return -2;
        }
        if (former.isEmpty()) {
            return -5;
        }
        now = former.remove(former.size() - 1);
        return former.size();
    }

    int anew() {
        if (now.lines == 0) {
            return -2;
        }
        int were = former.size();
        if (were > 0) {
            now = former.get(0);
            former.clear();
        }
        return were;
    }

    /** The packets of a bus as a text, for tests that tell them back. */
    String packetText(int node) {
        if (bar(node) < 0) {
            return "";
        }
        Vote v = new Vote(now);
        StringBuilder text = new StringBuilder();
        for (int other : v.ids(node)) {
            text.append(v.packetOf(other)).append(';');
        }
        return text.toString();
    }
}
