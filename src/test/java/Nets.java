/** Networks that several tests use. */
final class Nets {
    /** 7 nodes with 16 links; the last one joins 3 and 4. */
    static final String SIXTEEN_OF_SEVEN =
            "7;012;023;034;045;056;067;124;135;146;157;168;236;247;258;269;348";

    private Nets() {
    }

    /** A text with 9 nodes and 16 links, 65 bytes; the last one joins 2 and 3. */
    static String sixteen() {
        StringBuilder out = new StringBuilder("9");
        for (int u = 0; u < 2; u++) {
            for (int v = u + 1; v < 9; v++) {
                out.append(';').append(u).append(v).append(1);
            }
        }
        return out.append(";231").toString();
    }

    /** A network from a text, by append() and parse(). */
    static IntervalRouter of(String text) {
        IntervalRouter x = new IntervalRouter();
        write(x, text);
        if (x.parse() < 0) {
            throw new IllegalArgumentException("a bad text in a test: " + text);
        }
        return x;
    }

    /** Makes a text longer, up to a length. */
    static void lengthen(IntervalRouter x, int from, int to) {
        for (int length = from; length < to; length++) {
            x.append('x');
        }
    }

    static void write(IntervalRouter x, String text) {
        x.clearText();
        for (int i = 0; i < text.length(); i++) {
            x.append(text.charAt(i));
        }
    }

    static IntervalRouter full() {
        return of(SIXTEEN_OF_SEVEN);
    }

    /** From 0 to 8 over each of the nodes 1 to 7, and over link 7 at once, all with the length 2. */
    static IntervalRouter eightWays() {
        IntervalRouter x = new IntervalRouter();
        x.begin(9);
        for (int v = 1; v < 8; v++) {
            x.addLink(0, v, 1);
        }
        x.addLink(0, 8, 2);
        for (int v = 1; v < 8; v++) {
            x.addLink(v, 8, 1);
        }
        return x;
    }

    static String labels(IntervalRouter x) {
        StringBuilder out = new StringBuilder();
        for (int v = 0; v < x.size(false); v++) {
            out.append(x.label(v));
        }
        return out.toString();
    }

    /** The entries of a node in the order of the labels; a dot is NONE. */
    static String table(IntervalRouter x, int v) {
        StringBuilder out = new StringBuilder();
        for (int label = 0; label < x.size(false); label++) {
            int link = x.entry(v, label);
            out.append(link == IntervalRouter.NONE ? "." : Integer.toString(link, 16));
        }
        return out.toString();
    }

    static boolean allNone(IntervalRouter x) {
        for (int v = 0; v < x.size(false); v++) {
            for (int label = 0; label < x.size(false); label++) {
                if (x.entry(v, label) != IntervalRouter.NONE) {
                    return false;
                }
            }
        }
        return true;
    }
}
