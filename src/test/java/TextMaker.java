import java.util.ArrayList;
import java.util.List;
import java.util.Random;

/** Texts of nets without a fault, by a seeded source: trees for the most part, some with rings. */
final class TextMaker {
    private final Random random;
    private final List<int[]> free = new ArrayList<>();
    private final List<String> names = new ArrayList<>();
    private final StringBuilder text = new StringBuilder();

    TextMaker(Random random) {
        this.random = random;
    }

    String text() {
        if (random.nextInt(60) == 0) {
            return "";
        }
        text.append("bus wait ").append(random.nextInt(21)).append(" delay ").append(random.nextInt(10)).append(";");
        int nodes = random.nextInt(6) == 0 ? random.nextInt(3) : 1 + random.nextInt(10);
        for (int node = 0; node < nodes; node++) {
            addNode(node);
        }
        joinAsTree(nodes);
        int extra = random.nextInt(3) == 0 ? random.nextInt(4) : 0;
        for (int i = 0; i < extra; i++) {
            join();
        }
        return text.toString();
    }

    private void addNode(int node) {
        int ports = random.nextInt(4) == 0 ? 1 : 2 + random.nextInt(3);
        text.append("node ").append(newName()).append(" ports ").append(ports);
        if (random.nextInt(4) == 0) {
            text.append(" force");
        }
        if (random.nextInt(3) != 0) {
            text.append(" coins ");
            for (int i = random.nextInt(8); i >= 0; i--) {
                text.append(random.nextInt(2));
            }
        }
        text.append(";");
        for (int port = 0; port < ports; port++) {
            free.add(new int[] {node, port});
        }
    }

    /** Short for the most part, so that the tape has room; some that only look like reserved words. */
    private String newName() {
        String[] odd = {"wait", "delay", "ports", "long", "buses", "nodes", "nod", "z", "zz", "abcdef"};
        String name = "";
        while (name.isEmpty() || names.contains(name)) {
            name = random.nextInt(4) == 0 ? odd[random.nextInt(odd.length)] : String.valueOf((char) ('a' + random.nextInt(26)));
        }
        names.add(name);
        return name;
    }

    /** Each node to one that stands already, where a port is free; now and then a node is left alone. */
    private void joinAsTree(int nodes) {
        List<Integer> standing = new ArrayList<>();
        for (int node = 0; node < nodes; node++) {
            if (!standing.isEmpty() && random.nextInt(12) != 0) {
                int start = random.nextInt(standing.size());
                for (int i = 0; i < standing.size(); i++) {
                    if (connect(node, standing.get((start + i) % standing.size()))) {
                        break;
                    }
                }
            }
            standing.add(node);
        }
    }

    private void join() {
        if (!free.isEmpty()) {
            int a = free.get(random.nextInt(free.size()))[0];
            int b = free.get(random.nextInt(free.size()))[0];
            if (a != b) {
                connect(a, b);
            }
        }
    }

    private int[] someFree(int node) {
        List<int[]> mine = new ArrayList<>();
        for (int[] end : free) {
            if (end[0] == node) {
                mine.add(end);
            }
        }
        return mine.isEmpty() ? null : mine.get(random.nextInt(mine.size()));
    }

    private boolean connect(int a, int b) {
        int[] one = someFree(a);
        int[] two = someFree(b);
        if (one == null || two == null || text.length() > 660) {
            return false;
        }
        free.remove(one);
        free.remove(two);
        text.append("cable ").append(names.get(one[0])).append(" ").append(one[1]).append(" ").append(names.get(two[0]))
            .append(" ").append(two[1]).append(" long ").append(1 + random.nextInt(9)).append(";");
        return true;
    }
}
