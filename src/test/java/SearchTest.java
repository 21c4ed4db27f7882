/** Promises 33 and 34, and the best labeling of promise 13. */
public final class SearchTest {
    public static void main(String[] args) {
        smallest();
        trees();
        rings();
        afterChanges();
        compactnessBeforeSize();
        tooMany();
        Expect.end();
    }

    private static void smallest() {
        IntervalRouter x = new IntervalRouter();
        Expect.due("33: without nodes", x.bestCompactness(), 0);
        Expect.due("34: without nodes there is one labeling", x.labelings(0), 1);
        Expect.due("34: without nodes there is one labeling", x.labelings(9), 1);
        IntervalRouter one = Nets.of("1");
        Expect.due("33: a single node", one.bestCompactness(), 0);
        Expect.due("34: a single node", one.labelings(0), 1);
        IntervalRouter apart = Nets.of("3");
        Expect.due("33: without links", apart.bestCompactness(), 0);
        Expect.due("34: without links", apart.labelings(0), 6);
        IntervalRouter two = Nets.of("2;011");
        Expect.due("33: two nodes", two.bestCompactness(), 1);
        Expect.due("34: two nodes, 0", two.labelings(0), 0);
        Expect.due("34: two nodes, 1", two.labelings(1), 2);
    }

    private static void trees() {
        IntervalRouter star = Nets.of("5;011;021;031;041");
        Expect.due("33: a star", star.bestCompactness(), 1);
        Expect.due("34: a star, any labeling", star.labelings(1), 120);
        // 1 - 3 - 0 - 2 - 4
        IntervalRouter line = Nets.of("5;131;301;021;241");
        Expect.due("33: a line", line.bestCompactness(), 1);
        // the middle wants its two sides not alternating: 2 of 3 circular orders of two pairs; the rest is free
        Expect.due("34: a line", line.labelings(1), 80);
        Expect.due("34: a line, all", line.labelings(2), 120);
        long before = line.digest();
        line.bestCompactness();
        Expect.due("33: the search changes nothing", line.digest(), before);
    }

    private static void rings() {
        IntervalRouter ring = Nets.of("6;011;121;231;341;451;501");
        Expect.due("33: a ring", ring.bestCompactness(), 1);
        ring.shuffle(3);
        Expect.due("34: the labels do not matter", ring.labelings(9), 720);
        ring.setLabels(3, 5);
        Expect.dueText("13: the initial labels come first", Nets.labels(ring), "012345");
    }

    /** What a search has found must not be taken for another network. */
    private static void afterChanges() {
        IntervalRouter x = Nets.of("5;131;301;021;241");
        Expect.due("34: a line", x.labelings(1), 80);
        x.setLength(0, 9);
        Expect.due("34: the lengths of a tree do not matter", x.labelings(1), 80);
        x.addLink(0, 4, 1);
        int withLink = x.labelings(1);
        Expect.due("34: one more link", withLink, direct("5;139;301;021;241;041", 1));
        x.setLength(4, 9);
        Expect.due("34: a longer link", x.labelings(1), direct("5;139;301;021;241;049", 1));
        x.undo();
        Expect.due("34: undone", x.labelings(1), withLink);
        x.removeLink(4);
        Expect.due("34: a link less", x.labelings(1), 80);
        x.begin(3);
        Expect.due("34: another network", x.labelings(1), 6);
        Nets.write(x, "4;011");
        x.parse();
        Expect.due("34: one from a text", x.labelings(1), 24);
        Expect.due("34: one from a text", x.labelings(0), 0);
        x.undo();
        x.undo();
        Expect.due("34: the line again", x.labelings(1), 80);
    }

    /** Counts by setting one labeling after the other by hand. */
    private static int direct(String text, int limit) {
        int nodes = text.charAt(0) - '0';
        int count = 0;
        for (int code = 0; code < 3125; code++) {
            int[] labels = new int[nodes];
            int used = 0;
            int rest = code;
            for (int v = 0; v < nodes; v++) {
                labels[v] = rest % nodes;
                used |= 1 << labels[v];
                rest /= nodes;
            }
            if (used == (1 << nodes) - 1 && compactnessWith(text, labels) <= limit) {
                count++;
            }
        }
        return count;
    }

    private static int compactnessWith(String text, int[] labels) {
        IntervalRouter x = Nets.of(text);
        for (int v = 0; v < labels.length; v++) {
            x.swapLabels(v, x.nodeWith(labels[v]));
        }
        x.makeTables();
        return x.compactness();
    }

    /** The best labeling has the smallest compactness, and only then the smallest size. */
    private static void compactnessBeforeSize() {
        IntervalRouter x = Nets.of("6;011;021;031;121;143;252;341;451;531");
        int best = x.bestCompactness();
        x.setLabels(3, 0);
        int size = x.makeTables();
        Expect.due("33: the best labeling has it", x.compactness(), best);
        String labels = Nets.labels(x);
        for (int seed = 0; seed < 100; seed++) {
            IntervalRouter y = Nets.of("6;011;021;031;121;143;252;341;451;531");
            y.shuffle(seed);
            int other = y.makeTables();
            boolean better = y.compactness() < best || y.compactness() == best
                    && (other < size || other == size && Nets.labels(y).compareTo(labels) < 0);
            Expect.due("33: a better one is " + Nets.labels(y), better ? 1 : 0, 0);
        }
    }

    private static void tooMany() {
        IntervalRouter x = Nets.of("7");
        Expect.state("33: 7 nodes", x::bestCompactness);
        Expect.state("34: 7 nodes", () -> x.labelings(9));
        Expect.argument("34: the limit comes first", () -> x.labelings(10));
        x.begin(6);
        Expect.due("33: 6 nodes", x.bestCompactness(), 0);
        Expect.argument("34: -1", () -> x.labelings(-1));
        Expect.argument("34: 10", () -> x.labelings(10));
        Expect.due("34: 6 nodes", x.labelings(0), 720);
    }
}
