import java.nio.charset.StandardCharsets;

/** What the tests share: telling a text to an object, and counting answers that are not due. */
final class Check {
    private final String title;
    private int checks = 0;
    private int wrong = 0;

    Check(String title) {
        this.title = title;
    }

    void due(String call, int got, int want) {
        checks++;
        if (got != want) {
            wrong++;
            if (wrong <= 50) {
                System.out.println(title + ": " + call + " answered " + got + ", due is " + want);
            }
        }
    }

    boolean isFine() {
        return wrong == 0;
    }

    void close() {
        System.out.println(title + ": " + checks + " answers, " + wrong + " not as due");
        if (wrong != 0) {
            System.exit(1);
        }
    }

    static void tell(CableElection x, String text) {
        tell(x, text.getBytes(StandardCharsets.ISO_8859_1));
    }

    /** Feeds a text in twenties and cuts off what the last one has too much. */
    static void tell(CableElection x, byte[] bytes) {
        int before = x.count(6);
        for (int at = 0; at < bytes.length; at += 20) {
            x.feed(four(bytes, at), four(bytes, at + 4), four(bytes, at + 8), four(bytes, at + 12), four(bytes, at + 16));
        }
        x.end(before + bytes.length);
    }

    static int four(byte[] bytes, int at) {
        int number = 0;
        for (int i = at; i < at + 4; i++) {
            number = number << 8 | (i < bytes.length ? bytes[i] & 255 : 0);
        }
        return number;
    }

    static CableElection netOf(String text) {
        CableElection x = new CableElection();
        tell(x, text);
        if (x.net() < 0) {
            throw new IllegalStateException("a test's text is faulty at " + x.fault(1) + ": " + text);
        }
        return x;
    }

    /** A text that must be refused, with its fault and the fault's place. */
    void refused(String text, int fault, int place) {
        CableElection x = new CableElection();
        tell(x, text);
        due("net() of " + text, x.net(), -4);
        due("fault(0) of " + text, x.fault(0), fault);
        due("fault(1) of " + text, x.fault(1), place);
        due("count(6) behind " + text, x.count(6), 0);
    }

    void refusedPackets(String text, int fault, int place) {
        CableElection x = new CableElection();
        tell(x, text);
        due("packets() of " + text, x.packets(), -4);
        due("fault(0) of " + text, x.fault(0), fault);
        due("fault(1) of " + text, x.fault(1), place);
        due("count(6) behind " + text, x.count(6), 0);
    }
}
