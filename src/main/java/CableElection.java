import java.util.Arrays;

/**
 * Nodes and cables that choose a root by themselves.
 *
 * <p>Every row is made once, with the object, and used again by each call: what many calls
 * together make stays as small as what one object makes.
 */
public final class CableElection {
    public static final int NONE = -1;

    private static final int ABSENT = -2;
    private static final int LOOPED = -3;
    private static final int FAULTY = -4;
    private static final int REFUSED = -5;
    private static final int FINE = 0;

    private static final int FEED_BYTES = 20;
    private static final int MOST_BYTES = 700;
    private static final int MOST_NODES = 10;
    private static final int MOST_PORTS = 4;
    private static final int MOST_ENDS = 40;
    private static final int MOST_CABLES_TOLD = 15;
    private static final int MOST_LETTERS = 6;
    private static final int MOST_COINS = 8;
    private static final int MOST_WAIT = 20;
    private static final int MOST_DELAY = 9;
    private static final int MOST_LENGTH = 9;
    private static final int MOST_ROUNDS = 10;
    private static final int MOST_PACKETS = 12;
    private static final int MOST_ACTS = 20;

    /** Above each tick and each delay that a net can have. */
    private static final int NEVER = 1000000;

    private static final int AT_END = 0;
    private static final int AT_WORD = 1;
    private static final int AT_NUMBER = 2;
    private static final int AT_SIGN = 3;
    private static final int AT_STRANGE = 4;

    private static final int FAULT_TOKEN = 1;
    private static final int FAULT_VALUE = 2;
    private static final int FAULT_MANY = 3;
    private static final int FAULT_ROOTLESS = 4;

    private static final int LETTER_N = 0;
    private static final int LETTER_P = 1;
    private static final int LETTER_C = 2;

    private static final int ROLE_FREE = 0;
    private static final int ROLE_PARENT = 1;
    private static final int ROLE_CHILD = 2;
    private static final int ROLE_NEITHER = 3;

    private static final int ACT_PLUG = 0;
    private static final int ACT_PULL = 1;
    private static final int ACT_FORCE = 2;

    private final Reading reading;
    private final TextReader textReader;
    private Net wiring;
    private Net draftWiring;
    private Told told;
    private Told draftTold;
    private final Acts acts;
    private final Walk walk;
    private final Buses buses;
    private final Election election;
    private final Election trial;
    private final Naming naming;
    private final Asking asking;

    public CableElection() {
        reading = new Reading();
        textReader = new TextReader();
        wiring = new Net();
        draftWiring = new Net();
        told = new Told();
        draftTold = new Told();
        acts = new Acts();
        walk = new Walk();
        buses = new Buses();
        election = new Election();
        trial = new Election();
        naming = new Naming();
        asking = new Asking();
    }

    public int feed(int a, int b, int c, int d, int e) {
        Tape tape = reading.tape;
        if (tape.used + FEED_BYTES > MOST_BYTES) {
            return NONE;
        }
        tape.append(a);
        tape.append(b);
        tape.append(c);
        tape.append(d);
        tape.append(e);
        return tape.used;
    }

    public int end(int n) {
        if (n < 0 || n > reading.tape.used) {
            return NONE;
        }
        reading.tape.used = n;
        return n;
    }

    public int net() {
        textReader.read(reading, draftWiring);
        reading.tape.used = 0;
        if (!reading.isFine()) {
            return FAULTY;
        }
        Net former = wiring;
        wiring = draftWiring;
        draftWiring = former;
        acts.made = 0;
        refresh();
        return wiring.lines;
    }

    public int fault(int what) {
        if (what == 0) {
            return reading.faultKind;
        }
        return what == 1 ? reading.faultPlace : NONE;
    }

    public int count(int what) {
        switch (what) {
            case 0:
                return wiring.nodes;
            case 1:
                return wiring.cables;
            case 2:
                return wiring.wait;
            case 3:
                return wiring.delay;
            case 4:
                return acts.made;
            case 5:
                return wiring.lines;
            case 6:
                return reading.tape.used;
            case 7:
                return buses.total;
            case 8:
                return buses.looped;
            default:
                return NONE;
        }
    }

    public int port(int node, int port, int what) {
        if (!wiring.hasPort(node, port) || what < 0 || what > 3) {
            return ABSENT;
        }
        int end = endOf(node, port);
        int far = wiring.far[end];
        if (what == 0) {
            return election.roleOf(wiring, end);
        }
        if (far == NONE) {
            return NONE;
        }
        if (what == 1) {
            return nodeOf(far);
        }
        return what == 2 ? portOf(far) : wiring.length[end];
    }

    public int root(int node) {
        int refusal = refusalOf(node);
        return refusal != FINE ? refusal : election.rootIn(buses, node);
    }

    public int settled(int node) {
        int refusal = refusalOf(node);
        if (refusal != FINE) {
            return refusal;
        }
        int chosen = election.rootIn(buses, node);
        return chosen == NONE ? NONE : election.rootAt[chosen];
    }

    public int called(int node) {
        return wiring.hasNode(node) ? election.calledAt[node] : ABSENT;
    }

    public int rounds(int node) {
        int refusal = refusalOf(node);
        return refusal != FINE ? refusal : election.roundsIn(buses, node);
    }

    public int taken(int node) {
        return wiring.hasNode(node) ? election.bitsTaken[node] : ABSENT;
    }

    public int id(int node) {
        int refusal = refusalOf(node);
        return refusal != FINE ? refusal : naming.idOf[node];
    }

    public int named(int node, int id) {
        int refusal = refusalOf(node);
        return refusal != FINE ? refusal : naming.nodeWith(buses, node, id);
    }

    public int size(int node) {
        return wiring.hasNode(node) ? buses.nodesIn(node) : ABSENT;
    }

    public int parent(int node) {
        int refusal = refusalOf(node);
        return refusal != FINE ? refusal : election.parentOf(wiring, node);
    }

    public int depth(int node) {
        int refusal = refusalOf(node);
        if (refusal != FINE) {
            return refusal;
        }
        int steps = 0;
        int above = election.parentOf(wiring, node);
        while (above != NONE && steps < MOST_NODES) {
            steps++;
            above = election.parentOf(wiring, above);
        }
        return steps;
    }

    public int below(int node) {
        int refusal = refusalOf(node);
        if (refusal != FINE) {
            return refusal;
        }
        int found = 0;
        for (int other = 0; other < wiring.nodes; other++) {
            if (election.isBelow(wiring, other, node)) {
                found++;
            }
        }
        return found;
    }

    public int way(int node, int other) {
        int refusal = wayRefusal(node, other);
        if (refusal != FINE) {
            return refusal;
        }
        walk.start(wiring, node, NONE);
        return walk.delayTo[other];
    }

    public int hops(int node, int other) {
        int refusal = wayRefusal(node, other);
        if (refusal != FINE) {
            return refusal;
        }
        walk.start(wiring, node, NONE);
        return walk.cablesTo[other];
    }

    public int longest(int node) {
        int refusal = refusalOf(node);
        return refusal != FINE ? refusal : longestWithout(node, NONE);
    }

    public int gap(int node) {
        int refusal = refusalOf(node);
        return refusal != FINE ? refusal : gapFor(longestWithout(node, NONE));
    }

    public int centre(int node) {
        int refusal = refusalOf(node);
        if (refusal != FINE) {
            return refusal;
        }
        int best = NONE;
        int least = NEVER;
        for (int other = 0; other < wiring.nodes; other++) {
            if (buses.areOne(node, other)) {
                walk.start(wiring, other, NONE);
                int farthest = walk.farthest();
                if (farthest < least) {
                    least = farthest;
                    best = other;
                }
            }
        }
        return best;
    }

    public int packet(int node, int i) {
        if (i < 0) {
            return ABSENT;
        }
        int refusal = refusalOf(node);
        return refusal != FINE ? refusal : letterOf(node, i);
    }

    public int packets() {
        draftTold.read(reading);
        reading.tape.used = 0;
        if (!reading.isFine()) {
            return FAULTY;
        }
        Told former = told;
        told = draftTold;
        draftTold = former;
        return told.total;
    }

    public int built(int i, int what) {
        if (i < 0 || i >= told.total) {
            return ABSENT;
        }
        switch (what) {
            case 0:
                return told.parentOf[i];
            case 1:
                return told.portUp[i];
            case 2:
                return told.portDown[i];
            case 3:
                return told.lettersOf(i, LETTER_C);
            case 4:
                return told.cablesToRoot(i);
            default:
                return ABSENT;
        }
    }

    public int unlike(int node) {
        int refusal = refusalOf(node);
        if (refusal != FINE) {
            return refusal;
        }
        int found = 0;
        int most = Math.max(buses.nodesIn(node), told.total);
        for (int id = 0; id < most; id++) {
            int named = naming.nodeWith(buses, node, id);
            for (int i = 0; i < MOST_PORTS; i++) {
                int here = named == NONE ? NONE : letterOf(named, i);
                if (here != told.letterAt(id, i)) {
                    found++;
                }
            }
        }
        return found;
    }

    public int wins(int set) {
        int refusal = setRefusal(set);
        if (refusal != FINE) {
            return refusal;
        }
        asking.ask(wiring, election, naming, buses, set);
        return asking.winner;
    }

    public int grant(int set) {
        int refusal = setRefusal(set);
        if (refusal != FINE) {
            return refusal;
        }
        asking.ask(wiring, election, naming, buses, set);
        return asking.grantedAt;
    }

    public int turn(int set, int k) {
        if (k < 0) {
            return ABSENT;
        }
        int refusal = setRefusal(set);
        if (refusal != FINE) {
            return refusal;
        }
        int left = set;
        for (int place = 0; place < MOST_NODES && left != 0; place++) {
            asking.ask(wiring, election, naming, buses, left);
            if (place == k) {
                return asking.winner;
            }
            left = without(left, asking.winner);
        }
        return NONE;
    }

    public int fair(int set) {
        if (set == 0) {
            return 0;
        }
        int refusal = setRefusal(set);
        if (refusal != FINE) {
            return refusal;
        }
        int left = set;
        int ticks = 0;
        for (int place = 0; place < MOST_NODES && left != 0; place++) {
            asking.ask(wiring, election, naming, buses, left);
            ticks += asking.grantedAt;
            left = without(left, asking.winner);
        }
        return ticks;
    }

    public int rootBy(int node) {
        int refusal = refusalOf(node);
        if (refusal != FINE) {
            return refusal;
        }
        trial.hold(wiring, node);
        return trial.rootIn(buses, node);
    }

    public int cutting(int node, int port) {
        if (!wiring.hasPort(node, port) || !wiring.isCabled(endOf(node, port))) {
            return ABSENT;
        }
        walk.start(wiring, node, endOf(node, port));
        return walk.reached;
    }

    public int bridges() {
        if (wiring.lines == 0) {
            return ABSENT;
        }
        int found = 0;
        for (int end = 0; end < MOST_ENDS; end++) {
            if (wiring.isLesserEnd(end) && walk.isBridge(wiring, end)) {
                found++;
            }
        }
        return found;
    }

    public int spare(int node) {
        if (!wiring.hasNode(node)) {
            return ABSENT;
        }
        // With fewer cables none is spare, and with more a loop stays, whichever one goes.
        if (buses.cablesIn(node) != buses.nodesIn(node)) {
            return NONE;
        }
        int best = NONE;
        int least = NEVER;
        for (int end = 0; end < MOST_ENDS; end++) {
            if (wiring.isLesserEnd(end) && buses.areOne(node, nodeOf(end)) && !walk.isBridge(wiring, end)) {
                int gapThen = gapFor(longestWithout(node, end));
                if (gapThen < least) {
                    least = gapThen;
                    best = end;
                }
            }
        }
        return best == NONE ? NONE : 10 * nodeOf(best) + portOf(best);
    }

    public int plug(int node, int port, int other, int there, int length) {
        if (!wiring.hasPort(node, port) || !wiring.hasPort(other, there) || node == other) {
            return ABSENT;
        }
        if (length < 1 || length > MOST_LENGTH) {
            return ABSENT;
        }
        int end = endOf(node, port);
        int far = endOf(other, there);
        if (wiring.isCabled(end) || wiring.isCabled(far) || acts.areFull()) {
            return REFUSED;
        }
        acts.keep(ACT_PLUG, end, far, length);
        wiring.link(end, far, length);
        refresh();
        return buses.total;
    }

    public int pull(int node, int port) {
        if (!wiring.hasPort(node, port)) {
            return ABSENT;
        }
        int end = endOf(node, port);
        if (!wiring.isCabled(end) || acts.areFull()) {
            return REFUSED;
        }
        acts.keep(ACT_PULL, end, wiring.far[end], wiring.length[end]);
        wiring.unlink(end);
        refresh();
        return buses.total;
    }

    public int force(int node, int is) {
        if (!wiring.hasNode(node) || is < 0 || is > 1) {
            return ABSENT;
        }
        boolean wanted = is == 1;
        if (wiring.forced[node] == wanted || acts.areFull()) {
            return REFUSED;
        }
        acts.keep(ACT_FORCE, node, NONE, 0);
        wiring.forced[node] = wanted;
        refresh();
        return election.rootIn(buses, node);
    }

    public int undo() {
        if (wiring.lines == 0) {
            return ABSENT;
        }
        if (acts.made == 0) {
            return REFUSED;
        }
        acts.takeBack(wiring);
        refresh();
        return acts.made;
    }

    public int anew() {
        if (wiring.lines == 0) {
            return ABSENT;
        }
        int were = acts.made;
        for (int i = 0; i < were; i++) {
            acts.takeBack(wiring);
        }
        refresh();
        return were;
    }

    private void refresh() {
        buses.mark(wiring, walk);
        election.hold(wiring, NONE);
        naming.handOn(wiring, election, buses);
    }

    private int refusalOf(int node) {
        if (!wiring.hasNode(node)) {
            return ABSENT;
        }
        return buses.hasLoop(node) ? NONE : FINE;
    }

    private int wayRefusal(int node, int other) {
        if (!wiring.hasNode(node) || !wiring.hasNode(other)) {
            return ABSENT;
        }
        return buses.areOne(node, other) && !buses.hasLoop(node) ? FINE : NONE;
    }

    private int setRefusal(int set) {
        if (set == 0) {
            return NONE;
        }
        if ((set >>> wiring.nodes) != 0) {
            return ABSENT;
        }
        int first = leastIn(set);
        for (int node = 0; node < wiring.nodes; node++) {
            if (holds(set, node) && !buses.areOne(first, node)) {
                return ABSENT;
            }
        }
        return buses.hasLoop(first) ? LOOPED : FINE;
    }

    private int longestWithout(int node, int end) {
        int most = 0;
        for (int other = 0; other < wiring.nodes; other++) {
            if (buses.areOne(node, other)) {
                walk.start(wiring, other, end);
                most = Math.max(most, walk.farthest());
            }
        }
        return most;
    }

    private int letterOf(int node, int i) {
        if (!wiring.hasPort(node, i)) {
            return NONE;
        }
        int role = election.roleOf(wiring, endOf(node, i));
        if (role == ROLE_FREE) {
            return LETTER_N;
        }
        return role == ROLE_PARENT ? LETTER_P : LETTER_C;
    }

    /** Eight gaps are to be 2 LONGEST and 5 at least: the 7 rounds up. */
    private static int gapFor(int longest) {
        return (2 * longest + 5 + 7) / 8;
    }

    private static int endOf(int node, int port) {
        return node * MOST_PORTS + port;
    }

    private static int nodeOf(int end) {
        return end / MOST_PORTS;
    }

    private static int portOf(int end) {
        return end % MOST_PORTS;
    }

    private static boolean holds(int set, int node) {
        return ((set >>> node) & 1) == 1;
    }

    /** The least node of a set that is not empty. */
    private static int leastIn(int set) {
        for (int node = 0; node < MOST_NODES; node++) {
            if (holds(set, node)) {
                return node;
            }
        }
        return 0;
    }

    private static int without(int set, int node) {
        return set & ~(1 << node);
    }

    /** The bytes that wait to be read. */
    private static final class Tape {
        final byte[] bytes = new byte[MOST_BYTES];
        int used = 0;

        void append(int number) {
            for (int shift = 24; shift >= 0; shift -= 8) {
                if (used < MOST_BYTES) {
                    bytes[used] = (byte) (number >>> shift);
                    used++;
                }
            }
        }

        /** NONE behind the last byte, so that whoever looks ahead needs no test of its own. */
        int byteAt(int place) {
            return place < 0 || place >= used ? NONE : bytes[place] & 255;
        }
    }

    /** The tape seen as tokens, one at a time, and the first fault that was found in them. */
    private static final class Reading {
        final Tape tape = new Tape();
        int kind = AT_END;
        int start = 0;
        int stop = 0;
        int faultKind = FINE;
        int faultPlace = NONE;

        void begin() {
            faultKind = FINE;
            faultPlace = NONE;
            stop = 0;
            advance();
        }

        boolean isFine() {
            return faultKind == FINE;
        }

        boolean goesOn() {
            return isFine() && kind != AT_END;
        }

        void refuse(int fault) {
            if (isFine()) {
                faultKind = fault;
                faultPlace = start;
            }
        }

        void advance() {
            start = stop;
            while (start < tape.used && isBlank(tape.byteAt(start))) {
                start++;
            }
            int first = tape.byteAt(start);
            kind = kindOf(first);
            stop = first == NONE ? start : start + 1;
            if (kind == AT_WORD || kind == AT_NUMBER) {
                while (stop < tape.used && kindOf(tape.byteAt(stop)) == kind) {
                    stop++;
                }
            }
        }

        private static boolean isBlank(int sign) {
            return sign == 32 || sign == 10;
        }

        private static int kindOf(int sign) {
            if (sign == NONE) {
                return AT_END;
            }
            if (sign >= 'a' && sign <= 'z') {
                return AT_WORD;
            }
            if (sign >= '0' && sign <= '9') {
                return AT_NUMBER;
            }
            return sign == ';' ? AT_SIGN : AT_STRANGE;
        }

        boolean isWord(String word) {
            if (kind != AT_WORD || stop - start != word.length()) {
                return false;
            }
            for (int i = 0; i < word.length(); i++) {
                if (tape.byteAt(start + i) != word.charAt(i)) {
                    return false;
                }
            }
            return true;
        }

        void takeWord(String word) {
            if (isFine()) {
                if (isWord(word)) {
                    advance();
                } else {
                    refuse(FAULT_TOKEN);
                }
            }
        }

        void takeSign() {
            if (isFine()) {
                if (kind == AT_SIGN) {
                    advance();
                } else {
                    refuse(FAULT_TOKEN);
                }
            }
        }

        /** The number here if it keeps to its bounds; else a fault is told, and the least is answered. */
        int takeNumber(int least, int most) {
            if (!isFine()) {
                return least;
            }
            if (kind != AT_NUMBER) {
                refuse(FAULT_TOKEN);
                return least;
            }
            int value = numberHere();
            if (value < least || value > most) {
                refuse(FAULT_VALUE);
                return least;
            }
            advance();
            return value;
        }

        /** Every number above 999 is answered as some number above 999: no bound is that high. */
        int numberHere() {
            int value = 0;
            for (int place = start; place < stop; place++) {
                if (value <= 999) {
                    value = value * 10 + tape.byteAt(place) - '0';
                }
            }
            return value;
        }
    }

    /** Reads a text into a net, which is only worth something if no fault was found. */
    private static final class TextReader {
        private final int[] nameStart = new int[MOST_NODES];
        private final int[] nameLength = new int[MOST_NODES];

        void read(Reading reading, Net into) {
            into.clear();
            reading.begin();
            for (int line = 0; line < MOST_BYTES && reading.goesOn(); line++) {
                if (line == 0) {
                    readBus(reading, into);
                } else if (reading.isWord("node")) {
                    readNode(reading, into);
                } else if (reading.isWord("cable")) {
                    readCable(reading, into);
                } else {
                    reading.refuse(FAULT_TOKEN);
                }
                reading.takeSign();
                into.lines = line + 1;
            }
        }

        private void readBus(Reading reading, Net into) {
            reading.takeWord("bus");
            reading.takeWord("wait");
            into.wait = reading.takeNumber(0, MOST_WAIT);
            reading.takeWord("delay");
            into.delay = reading.takeNumber(0, MOST_DELAY);
        }

        private void readNode(Reading reading, Net into) {
            if (into.nodes >= MOST_NODES) {
                reading.refuse(FAULT_MANY);
                return;
            }
            reading.takeWord("node");
            takeNewName(reading, into);
            reading.takeWord("ports");
            int ports = reading.takeNumber(1, MOST_PORTS);
            if (reading.isFine()) {
                into.addNode(ports);
                readForce(reading, into, into.nodes - 1);
                readCoins(reading, into, into.nodes - 1);
            }
        }

        private void takeNewName(Reading reading, Net into) {
            if (reading.kind != AT_WORD) {
                reading.refuse(FAULT_TOKEN);
                return;
            }
            int letters = reading.stop - reading.start;
            if (letters > MOST_LETTERS || isReserved(reading) || nodeNamedHere(reading, into) != NONE) {
                reading.refuse(FAULT_VALUE);
                return;
            }
            nameStart[into.nodes] = reading.start;
            nameLength[into.nodes] = letters;
            reading.advance();
        }

        private static boolean isReserved(Reading reading) {
            return reading.isWord("bus") || reading.isWord("node") || reading.isWord("cable")
                || reading.isWord("force") || reading.isWord("coins");
        }

        private int nodeNamedHere(Reading reading, Net into) {
            for (int node = 0; node < into.nodes; node++) {
                if (isNameHere(reading, node)) {
                    return node;
                }
            }
            return NONE;
        }

        private boolean isNameHere(Reading reading, int node) {
            if (reading.stop - reading.start != nameLength[node]) {
                return false;
            }
            for (int i = 0; i < nameLength[node]; i++) {
                if (reading.tape.byteAt(reading.start + i) != reading.tape.byteAt(nameStart[node] + i)) {
                    return false;
                }
            }
            return true;
        }

        private void readForce(Reading reading, Net into, int node) {
            if (reading.isWord("force")) {
                into.forced[node] = true;
                reading.advance();
            }
        }

        private void readCoins(Reading reading, Net into, int node) {
            if (!reading.isWord("coins")) {
                return;
            }
            reading.advance();
            if (reading.kind != AT_NUMBER) {
                reading.refuse(FAULT_TOKEN);
                return;
            }
            if (!areCoinsHere(reading)) {
                reading.refuse(FAULT_VALUE);
                return;
            }
            into.coinCount[node] = reading.stop - reading.start;
            for (int i = 0; i < into.coinCount[node]; i++) {
                into.coins[node] |= (reading.tape.byteAt(reading.start + i) - '0') << i;
            }
            reading.advance();
        }

        private static boolean areCoinsHere(Reading reading) {
            if (reading.stop - reading.start > MOST_COINS) {
                return false;
            }
            for (int place = reading.start; place < reading.stop; place++) {
                if (reading.tape.byteAt(place) > '1') {
                    return false;
                }
            }
            return true;
        }

        private void readCable(Reading reading, Net into) {
            if (into.cables >= MOST_CABLES_TOLD) {
                reading.refuse(FAULT_MANY);
                return;
            }
            reading.takeWord("cable");
            int node = takeKnownName(reading, into, NONE);
            int port = takeFreePort(reading, into, node);
            int other = takeKnownName(reading, into, node);
            int there = takeFreePort(reading, into, other);
            reading.takeWord("long");
            int length = reading.takeNumber(1, MOST_LENGTH);
            if (reading.isFine()) {
                into.link(endOf(node, port), endOf(other, there), length);
            }
        }

        /** NONE if a fault is told, here or before. */
        private int takeKnownName(Reading reading, Net into, int otherNode) {
            if (!reading.isFine()) {
                return NONE;
            }
            if (reading.kind != AT_WORD) {
                reading.refuse(FAULT_TOKEN);
                return NONE;
            }
            int node = nodeNamedHere(reading, into);
            if (node == NONE || node == otherNode) {
                reading.refuse(FAULT_VALUE);
                return NONE;
            }
            reading.advance();
            return node;
        }

        private static int takeFreePort(Reading reading, Net into, int node) {
            if (!reading.isFine() || !into.hasNode(node)) {
                return NONE;
            }
            if (reading.kind == AT_NUMBER && into.isPortTaken(node, reading.numberHere())) {
                reading.refuse(FAULT_VALUE);
            }
            return reading.takeNumber(0, into.ports[node] - 1);
        }
    }

    /**
     * Nodes, their ports and the cables between them. A port is known by its end: four times its
     * node and its number; so the order of ends is the order of nodes and then of ports.
     */
    private static final class Net {
        int lines = 0;
        int wait = 0;
        int delay = 0;
        int nodes = 0;
        int cables = 0;
        final int[] ports = new int[MOST_NODES];
        final boolean[] forced = new boolean[MOST_NODES];
        final int[] coins = new int[MOST_NODES];
        final int[] coinCount = new int[MOST_NODES];
        final int[] far = new int[MOST_ENDS];
        final int[] length = new int[MOST_ENDS];

        Net() {
            Arrays.fill(far, NONE);
        }

        void clear() {
            lines = 0;
            wait = 0;
            delay = 0;
            nodes = 0;
            cables = 0;
            Arrays.fill(far, NONE);
        }

        void addNode(int itsPorts) {
            if (nodes < MOST_NODES) {
                ports[nodes] = itsPorts;
                forced[nodes] = false;
                coins[nodes] = 0;
                coinCount[nodes] = 1;
                nodes++;
            }
        }

        boolean hasNode(int node) {
            return node >= 0 && node < nodes;
        }

        boolean hasPort(int node, int port) {
            return hasNode(node) && port >= 0 && port < ports[node];
        }

        boolean isPortTaken(int node, int port) {
            return hasPort(node, port) && isCabled(endOf(node, port));
        }

        boolean isCabled(int end) {
            return end >= 0 && end < MOST_ENDS && far[end] != NONE;
        }

        /** True once for each cable: at its end of the lesser node. */
        boolean isLesserEnd(int end) {
            return isCabled(end) && end < far[end];
        }

        void link(int end, int other, int itsLength) {
            if (end < 0 || other < 0 || end >= MOST_ENDS || other >= MOST_ENDS) {
                return;
            }
            far[end] = other;
            far[other] = end;
            length[end] = itsLength;
            length[other] = itsLength;
            cables++;
        }

        void unlink(int end) {
            if (isCabled(end)) {
                far[far[end]] = NONE;
                far[end] = NONE;
                cables--;
            }
        }

        int coinOf(int node, int round) {
            if (coinCount[node] < 1) {
                return 0;
            }
            return (coins[node] >>> (round % coinCount[node])) & 1;
        }
    }

    /** The acts on a net, the latest last, with what is needed to take them back. */
    private static final class Acts {
        int made = 0;
        private final int[] kind = new int[MOST_ACTS];
        private final int[] subject = new int[MOST_ACTS];
        private final int[] far = new int[MOST_ACTS];
        private final int[] length = new int[MOST_ACTS];

        boolean areFull() {
            return made >= MOST_ACTS;
        }

        /** The subject is a node where it was forced or freed, else an end. */
        void keep(int itsKind, int itsSubject, int itsFar, int itsLength) {
            if (!areFull()) {
                kind[made] = itsKind;
                subject[made] = itsSubject;
                far[made] = itsFar;
                length[made] = itsLength;
                made++;
            }
        }

        void takeBack(Net net) {
            if (made == 0) {
                return;
            }
            made--;
            int what = subject[made];
            if (kind[made] == ACT_PLUG) {
                net.unlink(what);
            } else if (kind[made] == ACT_PULL) {
                net.link(what, far[made], length[made]);
            } else if (net.hasNode(what)) {
                net.forced[what] = !net.forced[what];
            }
        }
    }

    /** All that can be come to from one node, with one cable left out if that is asked. */
    private static final class Walk {
        int reached = 0;
        final int[] order = new int[MOST_NODES];
        final int[] delayTo = new int[MOST_NODES];
        final int[] cablesTo = new int[MOST_NODES];

        void start(Net net, int from, int leftOut) {
            Arrays.fill(delayTo, NONE);
            Arrays.fill(cablesTo, NONE);
            reached = 0;
            reach(from, 0, 0);
            for (int i = 0; i < reached && i < MOST_NODES; i++) {
                spread(net, order[i], leftOut);
            }
        }

        private void reach(int node, int delay, int cables) {
            if (reached < MOST_NODES && cablesTo[node] == NONE) {
                order[reached] = node;
                delayTo[node] = delay;
                cablesTo[node] = cables;
                reached++;
            }
        }

        private void spread(Net net, int node, int leftOut) {
            // The node that the way begins at is none of those inside.
            int passing = cablesTo[node] == 0 ? 0 : net.delay;
            for (int port = 0; port < net.ports[node]; port++) {
                int end = endOf(node, port);
                if (net.isCabled(end) && end != leftOut && net.far[end] != leftOut) {
                    reach(nodeOf(net.far[end]), delayTo[node] + passing + net.length[end], cablesTo[node] + 1);
                }
            }
        }

        int farthest() {
            int most = 0;
            for (int i = 0; i < reached && i < MOST_NODES; i++) {
                most = Math.max(most, delayTo[order[i]]);
            }
            return most;
        }

        boolean isBridge(Net net, int end) {
            if (!net.isCabled(end)) {
                return false;
            }
            start(net, nodeOf(end), end);
            return cablesTo[nodeOf(net.far[end])] == NONE;
        }
    }

    /** Which nodes come to one another. A bus is known by its least node. */
    private static final class Buses {
        int total = 0;
        int looped = 0;
        private final int[] busOf = new int[MOST_NODES];
        private final int[] nodeCount = new int[MOST_NODES];
        private final int[] cableCount = new int[MOST_NODES];

        void mark(Net net, Walk walk) {
            total = 0;
            looped = 0;
            Arrays.fill(busOf, NONE);
            for (int node = 0; node < net.nodes; node++) {
                if (busOf[node] == NONE) {
                    walk.start(net, node, NONE);
                    markOne(net, walk, node);
                }
            }
        }

        private void markOne(Net net, Walk walk, int least) {
            int ends = 0;
            for (int i = 0; i < walk.reached && i < MOST_NODES; i++) {
                int node = walk.order[i];
                busOf[node] = least;
                for (int port = 0; port < net.ports[node]; port++) {
                    if (net.isCabled(endOf(node, port))) {
                        ends++;
                    }
                }
            }
            nodeCount[least] = walk.reached;
            cableCount[least] = ends / 2;
            total++;
            if (ends / 2 >= walk.reached) {
                looped++;
            }
        }

        boolean areOne(int node, int other) {
            return busOf[node] == busOf[other];
        }

        int leastOf(int node) {
            return busOf[node] < 0 ? 0 : busOf[node];
        }

        int nodesIn(int node) {
            return nodeCount[leastOf(node)];
        }

        int cablesIn(int node) {
            return cableCount[leastOf(node)];
        }

        boolean hasLoop(int node) {
            return cablesIn(node) >= nodesIn(node);
        }
    }

    /** Who calls whom and when, and who is root of each bus. */
    private static final class Election {
        /** Ticks at which something happens: the first, one a call, one a wait; and more than enough. */
        private static final int MOST_STEPS = 64;

        final int[] calledAt = new int[MOST_NODES];
        final int[] rootAt = new int[MOST_NODES];
        final int[] bitsTaken = new int[MOST_NODES];
        private final int[] parentEnd = new int[MOST_NODES];
        private final int[] dueAt = new int[MOST_NODES];
        private final int[] heardAt = new int[MOST_ENDS];

        void hold(Net net, int alsoForced) {
            Arrays.fill(calledAt, NONE);
            Arrays.fill(rootAt, NONE);
            Arrays.fill(bitsTaken, 0);
            Arrays.fill(parentEnd, NONE);
            Arrays.fill(dueAt, NEVER);
            Arrays.fill(heardAt, NEVER);
            int tick = 0;
            for (int step = 0; step < MOST_STEPS && tick < NEVER; step++) {
                for (int node = 0; node < net.nodes; node++) {
                    boolean waits = net.forced[node] || node == alsoForced;
                    listen(net, node, tick, waits ? net.wait : 0);
                }
                tick = nextTick(tick);
            }
            for (int end = 0; end < MOST_ENDS; end++) {
                if (net.isLesserEnd(end) && isCalledBothWays(net, end)) {
                    contend(net, end);
                }
            }
        }

        private void listen(Net net, int node, int tick, int wait) {
            if (calledAt[node] != NONE || rootAt[node] != NONE) {
                return;
            }
            int silent = 0;
            int lastSilent = NONE;
            for (int port = 0; port < net.ports[node]; port++) {
                int end = endOf(node, port);
                if (net.isCabled(end) && heardAt[end] > tick) {
                    silent++;
                    lastSilent = end;
                }
            }
            if (silent == 0) {
                rootAt[node] = tick;
            } else if (silent == 1) {
                dueAt[node] = Math.min(dueAt[node], tick + wait);
                if (tick >= dueAt[node]) {
                    callBy(net, lastSilent, tick);
                }
            }
        }

        private void callBy(Net net, int end, int tick) {
            int node = nodeOf(end);
            calledAt[node] = tick;
            parentEnd[node] = end;
            heardAt[net.far[end]] = tick + net.length[end];
        }

        private int nextTick(int tick) {
            int next = NEVER;
            for (int end = 0; end < MOST_ENDS; end++) {
                if (heardAt[end] > tick) {
                    next = Math.min(next, heardAt[end]);
                }
            }
            for (int node = 0; node < MOST_NODES; node++) {
                if (dueAt[node] > tick) {
                    next = Math.min(next, dueAt[node]);
                }
            }
            return next;
        }

        private boolean isCalledBothWays(Net net, int end) {
            int far = net.far[end];
            return parentEnd[nodeOf(end)] == end && parentEnd[nodeOf(far)] == far;
        }

        private void contend(Net net, int end) {
            int far = net.far[end];
            int node = nodeOf(end);
            int rival = nodeOf(far);
            int there = 2 * net.length[end];
            int tick = Math.max(heardAt[end], heardAt[far]);
            int winner = NONE;
            for (int round = 0; round < MOST_ROUNDS && winner == NONE; round++) {
                int coin = net.coinOf(node, round);
                int rivalCoin = net.coinOf(rival, round);
                bitsTaken[node]++;
                bitsTaken[rival]++;
                tick += there + (coin + rivalCoin == 0 ? 2 : 6);
                if (coin != rivalCoin) {
                    winner = coin == 1 ? node : rival;
                }
            }
            if (winner == NONE) {
                winner = Math.max(node, rival);
            }
            rootAt[winner] = tick;
            parentEnd[winner] = NONE;
        }

        int roleOf(Net net, int end) {
            if (!net.isCabled(end)) {
                return ROLE_FREE;
            }
            if (parentEnd[nodeOf(end)] == end) {
                return ROLE_PARENT;
            }
            int far = net.far[end];
            return parentEnd[nodeOf(far)] == far ? ROLE_CHILD : ROLE_NEITHER;
        }

        int parentOf(Net net, int node) {
            int end = parentEnd[node];
            return net.isCabled(end) ? nodeOf(net.far[end]) : NONE;
        }

        boolean isBelow(Net net, int node, int above) {
            int at = node;
            for (int step = 0; step < MOST_NODES && at != NONE && at != above; step++) {
                at = parentOf(net, at);
            }
            return at == above;
        }

        int rootIn(Buses buses, int node) {
            for (int other = 0; other < MOST_NODES; other++) {
                if (rootAt[other] != NONE && buses.areOne(node, other)) {
                    return other;
                }
            }
            return NONE;
        }

        int roundsIn(Buses buses, int node) {
            int most = 0;
            for (int other = 0; other < MOST_NODES; other++) {
                if (buses.areOne(node, other)) {
                    most = Math.max(most, bitsTaken[other]);
                }
            }
            return most;
        }
    }

    /** The ids, bus by bus: a node has its own behind all below it. */
    private static final class Naming {
        final int[] idOf = new int[MOST_NODES];
        private final int[] nodeById = new int[MOST_NODES * MOST_NODES];

        void handOn(Net net, Election election, Buses buses) {
            Arrays.fill(idOf, NONE);
            Arrays.fill(nodeById, NONE);
            for (int node = 0; node < net.nodes; node++) {
                if (election.rootAt[node] != NONE) {
                    nameFrom(net, election, node, buses.leastOf(node) * MOST_NODES);
                }
            }
        }

        private void nameFrom(Net net, Election election, int top, int offset) {
            int at = top;
            int next = 0;
            for (int step = 0; step < 2 * MOST_NODES && at != NONE; step++) {
                int child = firstUnnamedChild(net, election, at);
                if (child != NONE) {
                    at = child;
                } else {
                    idOf[at] = next;
                    if (next < MOST_NODES) {
                        nodeById[offset + next] = at;
                    }
                    next++;
                    at = election.parentOf(net, at);
                }
            }
        }

        private int firstUnnamedChild(Net net, Election election, int node) {
            for (int port = 0; port < net.ports[node]; port++) {
                int end = endOf(node, port);
                if (election.roleOf(net, end) == ROLE_CHILD && idOf[nodeOf(net.far[end])] == NONE) {
                    return nodeOf(net.far[end]);
                }
            }
            return NONE;
        }

        int nodeWith(Buses buses, int node, int id) {
            if (id < 0 || id >= MOST_NODES) {
                return NONE;
            }
            return nodeById[buses.leastOf(node) * MOST_NODES + id];
        }
    }

    /** Who of those that ask comes first to the root. */
    private static final class Asking {
        int winner = NONE;
        int grantedAt = 0;
        private final int[] first = new int[MOST_NODES];
        private final int[] firstAt = new int[MOST_NODES];

        /** The set is one of nodes of one bus without a loop, and not empty. */
        void ask(Net net, Election election, Naming naming, Buses buses, int set) {
            int asker = leastIn(set);
            int members = buses.nodesIn(asker);
            winner = NONE;
            // By ids, so that each node's children have passed on theirs before it is looked at.
            for (int id = 0; id < members; id++) {
                int node = naming.nodeWith(buses, asker, id);
                if (node != NONE) {
                    hear(net, election, node, set);
                    winner = first[node];
                    grantedAt = 2 * firstAt[node];
                }
            }
        }

        private void hear(Net net, Election election, int node, int set) {
            first[node] = holds(set, node) ? node : NONE;
            firstAt[node] = holds(set, node) ? 0 : NEVER;
            for (int port = 0; port < net.ports[node]; port++) {
                int end = endOf(node, port);
                if (election.roleOf(net, end) == ROLE_CHILD) {
                    hearChild(net, node, end);
                }
            }
        }

        private void hearChild(Net net, int node, int end) {
            int child = nodeOf(net.far[end]);
            if (first[child] == NONE) {
                return;
            }
            int passing = first[child] == child ? 0 : net.delay;
            int tick = firstAt[child] + passing + net.length[end];
            if (tick < firstAt[node]) {
                first[node] = first[child];
                firstAt[node] = tick;
            }
        }
    }

    /** The packets told, and the tree that they build. */
    private static final class Told {
        int total = 0;
        final int[] parentOf = new int[MOST_PACKETS];
        final int[] portUp = new int[MOST_PACKETS];
        final int[] portDown = new int[MOST_PACKETS];
        private final int[] letterCount = new int[MOST_PACKETS];
        private final int[] letters = new int[MOST_PACKETS * MOST_PORTS];
        private final int[] orphans = new int[MOST_PACKETS];
        private int orphanCount = 0;
        private boolean hasRoot = false;

        void read(Reading reading) {
            total = 0;
            orphanCount = 0;
            hasRoot = false;
            reading.begin();
            for (int i = 0; i < MOST_BYTES && reading.goesOn(); i++) {
                readPacket(reading);
                reading.takeSign();
            }
            if (total > 0 && !hasRoot) {
                reading.refuse(FAULT_ROOTLESS);
            }
        }

        private void readPacket(Reading reading) {
            if (!isPacketHere(reading)) {
                reading.refuse(FAULT_TOKEN);
                return;
            }
            int children = lettersHere(reading, LETTER_C);
            boolean isRoot = lettersHere(reading, LETTER_P) == 0;
            if (children > orphanCount || (isRoot && children < orphanCount)) {
                reading.refuse(FAULT_VALUE);
            } else if (total >= MOST_PACKETS || hasRoot) {
                reading.refuse(FAULT_MANY);
            } else {
                addPacket(reading);
                hasRoot = isRoot;
                reading.advance();
            }
        }

        private static boolean isPacketHere(Reading reading) {
            int length = reading.stop - reading.start;
            if (reading.kind != AT_WORD || length > MOST_PORTS) {
                return false;
            }
            int known = lettersHere(reading, LETTER_N) + lettersHere(reading, LETTER_P) + lettersHere(reading, LETTER_C);
            return known == length && lettersHere(reading, LETTER_P) <= 1;
        }

        private static int lettersHere(Reading reading, int letter) {
            int found = 0;
            for (int place = reading.start; place < reading.stop; place++) {
                if (letterOfSign(reading.tape.byteAt(place)) == letter) {
                    found++;
                }
            }
            return found;
        }

        private static int letterOfSign(int sign) {
            switch (sign) {
                case 'n':
                    return LETTER_N;
                case 'p':
                    return LETTER_P;
                case 'c':
                    return LETTER_C;
                default:
                    return NONE;
            }
        }

        private void addPacket(Reading reading) {
            int made = total;
            letterCount[made] = Math.min(reading.stop - reading.start, MOST_PORTS);
            parentOf[made] = NONE;
            portUp[made] = NONE;
            portDown[made] = NONE;
            // From the last letter on: the latest node without a parent goes to the last c.
            for (int i = letterCount[made] - 1; i >= 0; i--) {
                int letter = letterOfSign(reading.tape.byteAt(reading.start + i));
                letters[made * MOST_PORTS + i] = letter;
                if (letter == LETTER_P) {
                    portUp[made] = i;
                } else if (letter == LETTER_C) {
                    adopt(made, i);
                }
            }
            // The root stays without a parent, and counts as such for the words behind it.
            if (orphanCount < MOST_PACKETS) {
                orphans[orphanCount] = made;
                orphanCount++;
            }
            total++;
        }

        private void adopt(int node, int port) {
            if (orphanCount > 0) {
                orphanCount--;
                parentOf[orphans[orphanCount]] = node;
                portDown[orphans[orphanCount]] = port;
            }
        }

        int letterAt(int i, int port) {
            if (i < 0 || i >= total || port < 0 || port >= letterCount[i]) {
                return NONE;
            }
            return letters[i * MOST_PORTS + port];
        }

        int lettersOf(int i, int letter) {
            int found = 0;
            for (int port = 0; port < MOST_PORTS; port++) {
                if (letterAt(i, port) == letter) {
                    found++;
                }
            }
            return found;
        }

        int cablesToRoot(int i) {
            int steps = 0;
            int at = i;
            while (steps < MOST_PACKETS && parentOf[at] != NONE) {
                steps++;
                at = parentOf[at];
            }
            return steps;
        }
    }
}
