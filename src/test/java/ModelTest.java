import java.nio.charset.StandardCharsets;
import java.util.Random;

/** Every call of the face, on many nets made by a seeded source, against the model. */
public final class ModelTest {
    private static final int RUNS = 4000;
    private static final int CALLS = 512;
    private static final Check CHECK = new Check("ModelTest");

    private final Random random;
    private final CableElection x = new CableElection();
    private final Model model = new Model();
    private final StringBuilder story = new StringBuilder();
    private int calls = 0;

    private ModelTest(long seed) {
        random = new Random(seed);
    }

    public static void main(String[] args) {
        int runs = args.length > 0 ? Integer.parseInt(args[0]) : RUNS;
        int first = args.length > 1 ? Integer.parseInt(args[1]) : 1;
        for (int seed = first; seed < first + runs && CHECK.isFine(); seed++) {
            ModelTest run = new ModelTest(seed);
            run.live();
            if (!CHECK.isFine()) {
                System.out.println("seed " + seed + "\n" + run.story);
            }
        }
        CHECK.close();
    }

    private void live() {
        tellNet();
        while (calls < CALLS - 60 && CHECK.isFine()) {
            int kind = random.nextInt(100);
            if (kind < 2) {
                tellNet();
            } else if (kind < 8) {
                tellPackets();
            } else if (kind < 20) {
                act();
            } else if (kind < 22 && calls < CALLS - 200) {
                askAll();
            } else {
                ask(6 + random.nextInt(29), node(), port());
            }
        }
    }

    private int below(int bound) {
        return random.nextInt(bound);
    }

    /** Mostly one that there is, at times one beside it. */
    private int node() {
        int n = model.count(0);
        int kind = below(20);
        return kind == 0 ? -1 : kind == 1 ? n : kind == 2 ? below(12) : n == 0 ? 0 : below(n);
    }

    private int port() {
        return below(30) == 0 ? below(7) - 2 : below(4);
    }

    private int set() {
        int kind = below(20);
        if (kind == 0) {
            return random.nextInt();
        }
        int n = model.count(0);
        int all = below(Math.max(1, 1 << n));
        if (kind < 5 || n == 0) {
            return all;
        }
        int bus = 0;
        int some = below(n);
        for (int i = 0; i < n; i++) {
            if (model.hops(some, i) >= 0) {
                bus |= 1 << i;
            }
        }
        return bus & (kind < 10 ? -1 : all | below(1 << n));
    }

    private void due(String call, int got, int want) {
        calls++;
        story.append(call).append(" = ").append(want).append('\n');
        CHECK.due(call, got, want);
    }

    private void tell(String text) {
        byte[] bytes = text.getBytes(StandardCharsets.ISO_8859_1);
        for (int at = 0; at < bytes.length; at += 20) {
            int[] n = new int[5];
            for (int i = 0; i < 5; i++) {
                n[i] = Check.four(bytes, at + 4 * i);
            }
            due("feed", x.feed(n[0], n[1], n[2], n[3], n[4]), model.feed(n[0], n[1], n[2], n[3], n[4]));
        }
        due("end(" + bytes.length + ")", x.end(bytes.length), model.end(bytes.length));
        story.append(text).append('\n');
    }

    private void tellNet() {
        String text = new TextMaker(random).text();
        if (below(3) == 0) {
            text = spoil(text);
        }
        tell(text);
        due("net()", x.net(), model.net());
        due("fault(0)", x.fault(0), model.fault(0));
        due("fault(1)", x.fault(1), model.fault(1));
        for (int what = 0; what < 9; what++) {
            due("count", x.count(what), model.count(what));
        }
    }

    private String spoil(String text) {
        StringBuilder s = new StringBuilder(text);
        String signs = "; \nabus01259npcZ";
        for (int times = 1 + below(2); times > 0 && s.length() > 0; times--) {
            int at = below(s.length());
            char sign = signs.charAt(below(signs.length()));
            switch (below(5)) {
                case 0 -> s.deleteCharAt(at);
                case 1 -> s.insert(at, sign);
                case 2 -> s.setCharAt(at, sign);
                case 3 -> s.setLength(at);
                default -> s.insert(at, s.substring(at, Math.min(s.length(), at + below(12))));
            }
        }
        return s.length() > 700 ? s.substring(0, 700) : s.toString();
    }

    private void tellPackets() {
        String text = below(2) == 0 ? model.packetText(node()) : packets();
        if (below(4) == 0) {
            text = spoil(text);
        }
        tell(text);
        due("packets()", x.packets(), model.packets());
        due("fault(0)", x.fault(0), model.fault(0));
        due("fault(1)", x.fault(1), model.fault(1));
        for (int i = 0; i < 2; i++) {
            int id = below(14) - 1;
            for (int what = 0; what < 5; what++) {
                due("built(" + id + ", " + what + ")", x.built(id, what), model.built(id, what));
            }
        }
        int node = node();
        due("unlike(" + node + ")", x.unlike(node), model.unlike(node));
    }

    /** A tree's packets, at times with one too many or too few. */
    private String packets() {
        StringBuilder text = new StringBuilder();
        int without = 0;
        int many = 1 + below(13);
        for (int i = 0; i < many; i++) {
            boolean top = i == many - 1;
            int c = top ? Math.min(4, without) : below(Math.min(3, without) + 1);
            StringBuilder word = new StringBuilder(top ? "" : "p");
            word.append("c".repeat(c));
            while (word.length() < 4 && below(2) == 0 || word.length() == 0) {
                word.append('n');
            }
            for (int k = word.length() - 1; k > 0; k--) {
                int other = below(k + 1);
                char sign = word.charAt(k);
                word.setCharAt(k, word.charAt(other));
                word.setCharAt(other, sign);
            }
            text.append(word).append(';');
            without += 1 - c;
        }
        return text.toString();
    }

    private void act() {
        int a = node();
        int b = node();
        int p = port();
        int q = port();
        int length = below(20) == 0 ? below(12) - 1 : 1 + below(9);
        int is = below(15) == 0 ? 2 : below(2);
        switch (below(9)) {
            case 0, 1, 2 -> due("plug(" + a + "," + p + "," + b + "," + q + "," + length + ")", x.plug(a, p, b, q, length), model.plug(a, p, b, q, length));
            case 3, 4 -> due("pull(" + a + "," + p + ")", x.pull(a, p), model.pull(a, p));
            case 5, 6 -> due("force(" + a + "," + is + ")", x.force(a, is), model.force(a, is));
            case 7 -> due("undo()", x.undo(), model.undo());
            default -> {
                if (below(4) == 0) {
                    due("anew()", x.anew(), model.anew());
                }
            }
        }
    }

    private void askAll() {
        int node = node();
        int port = port();
        for (int call = 6; call < 35; call++) {
            ask(call, node, port);
        }
    }

    private void ask(int call, int a, int p) {
        int b = node();
        int set = set();
        int what = below(20) == 0 ? below(12) - 2 : below(4);
        int i = below(8) - 1;
        String one = "(" + a + ")";
        String two = "(" + a + ", " + b + ")";
        switch (call) {
            case 6 -> due("count(" + i + ")", x.count(i), model.count(i));
            case 7 -> due("port(" + a + "," + p + "," + what + ")", x.port(a, p, what), model.port(a, p, what));
            case 8 -> due("root" + one, x.root(a), model.root(a));
            case 9 -> due("settled" + one, x.settled(a), model.settled(a));
            case 10 -> due("called" + one, x.called(a), model.called(a));
            case 11 -> due("rounds" + one, x.rounds(a), model.rounds(a));
            case 12 -> due("taken" + one, x.taken(a), model.taken(a));
            case 13 -> due("id" + one, x.id(a), model.id(a));
            case 14 -> due("named" + two, x.named(a, b), model.named(a, b));
            case 15 -> due("size" + one, x.size(a), model.size(a));
            case 16 -> due("parent" + one, x.parent(a), model.parent(a));
            case 17 -> due("depth" + one, x.depth(a), model.depth(a));
            case 18 -> due("below" + one, x.below(a), model.below(a));
            case 19 -> due("way" + two, x.way(a, b), model.way(a, b));
            case 20 -> due("hops" + two, x.hops(a, b), model.hops(a, b));
            case 21 -> due("longest" + one, x.longest(a), model.longest(a));
            case 22 -> due("gap" + one, x.gap(a), model.gap(a));
            case 23 -> due("centre" + one, x.centre(a), model.centre(a));
            case 24 -> due("packet(" + a + "," + p + ")", x.packet(a, p), model.packet(a, p));
            case 25 -> due("unlike" + one, x.unlike(a), model.unlike(a));
            case 26 -> due("wins(" + set + ")", x.wins(set), model.wins(set));
            case 27 -> due("grant(" + set + ")", x.grant(set), model.grant(set));
            case 28 -> due("turn(" + set + "," + i + ")", x.turn(set, i), model.turn(set, i));
            case 29 -> due("fair(" + set + ")", x.fair(set), model.fair(set));
            case 30 -> due("rootBy" + one, x.rootBy(a), model.rootBy(a));
            case 31 -> due("cutting(" + a + "," + p + ")", x.cutting(a, p), model.cutting(a, p));
            case 32 -> due("bridges()", x.bridges(), model.bridges());
            case 33 -> due("spare" + one, x.spare(a), model.spare(a));
            default -> due("fault(" + what + ")", x.fault(what), model.fault(what));
        }
    }
}
