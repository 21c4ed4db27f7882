import java.math.BigInteger;

/** The sentences of the promises 11 to 16. */
final class LabelSentences {
    private static final Class<IndexOutOfBoundsException> INDEX = IndexOutOfBoundsException.class;
    private static final Class<IllegalArgumentException> ARGUMENT = IllegalArgumentException.class;
    private static final Class<IllegalStateException> STATE = IllegalStateException.class;

    private static final String LINE = "4;011;121;231";

    private LabelSentences() {
    }

    static void tell(Sentences s) {
        labelAndNode(s);
        setLabels(s);
        swapLabels(s);
        turn(s);
        shuffle(s);
    }

    private static void labelAndNode(Sentences s) {
        s.promise(11);
        s.says("Returns the label of a node.", LabelSentences::labelOfANode);
        s.says("v: a node", LabelSentences::labelRange);
        s.says("Returns its label.", LabelSentences::labelAnswer);
        s.says("Throws IndexOutOfBoundsException if there is no such node", LabelSentences::labelRefused);
        s.promise(12);
        s.says("Returns the node with a label.", LabelSentences::nodeWithALabel);
        s.says("label: 0 to n - 1", LabelSentences::nodeWithRange);
        s.says("Returns the node.", LabelSentences::nodeWithAnswer);
        s.says("Throws IndexOutOfBoundsException if there is no such label", LabelSentences::nodeWithRefused);
    }

    private static void setLabels(Sentences s) {
        s.promise(13);
        s.says("Sets the labels by a rule.", LabelSentences::setsTheLabels);
        s.says("Undoable.", LabelSentences::setLabelsUndone);
        s.says("rule: 0 the initial labels,", LabelSentences::initialLabels);
        s.says("1 the depth-first labeling,", LabelSentences::depthFirstLabels);
        s.says("2 the rank labeling,", LabelSentences::rankLabels);
        s.says("3 the best labeling (see bestCompactness();", LabelSentences::bestLabels);
        s.says("r does not matter)", LabelSentences::rDoesNotMatter);
        s.says("r: a node, the one to start from", LabelSentences::theOneToStartFrom);
        s.says("(it must be one with all rules)", LabelSentences::aNodeWithAllRules);
        s.says("Returns the label of the last node (the one with the number n - 1).",
                LabelSentences::setLabelsAnswer);
        s.says("Throws IllegalArgumentException if rule is out of range", LabelSentences::ruleRefused);
        s.says("Throws IndexOutOfBoundsException if there is no such node", LabelSentences::setLabelsNoNode);
        s.says("Throws IllegalStateException if rule is 3 and there are more than 6 nodes",
                LabelSentences::tooManyForTheBest);
    }

    private static void swapLabels(Sentences s) {
        s.promise(14);
        s.says("Exchanges the labels of two nodes.", LabelSentences::exchanges);
        s.says("Undoable.", LabelSentences::swapLabelsUndone);
        s.says("u: a node", LabelSentences::swapLabelsFirst);
        s.says("v: a node", LabelSentences::swapLabelsSecond);
        s.says("Returns the new label of u.", LabelSentences::swapLabelsAnswer);
        s.says("Throws IndexOutOfBoundsException if there is no such node", LabelSentences::swapLabelsRefused);
    }

    private static void turn(Sentences s) {
        s.promise(15);
        s.says("Turns the circle: adds a number to all labels,", LabelSentences::addsToAllLabels);
        s.says("modulo n.", LabelSentences::moduloN);
        s.says("Undoable.", LabelSentences::turnUndone);
        s.says("by: 0 to 9", LabelSentences::turnRange);
        s.says("Returns the label of node 0 then.", LabelSentences::turnAnswer);
        s.says("Throws IllegalArgumentException if by is out of range", LabelSentences::turnRefused);
        s.says("Throws IllegalStateException if there are no nodes", LabelSentences::turnWithoutNodes);
    }

    private static void shuffle(Sentences s) {
        s.promise(16);
        s.says("Makes the labels random ones: they are 0 to n - 1 for the nodes 0 to n - 1 at first;",
                LabelSentences::fromTheInitialLabels);
        s.says("there is a number s, which is the seed at first;", LabelSentences::startsWithTheSeed);
        s.says("for i = n - 1, n - 2, ..., 1,", LabelSentences::downToOne);
        s.says("s becomes (1103515245 * s + 12345) modulo 2147483648,", LabelSentences::nextNumber);
        s.says("and the labels of the nodes i and j are exchanged, with j = (s / 65536, rounded down) modulo (i + 1).",
                LabelSentences::exchangedAtRandom);
        s.says("Undoable.", LabelSentences::shuffleUndone);
        s.says("seed: 0 to 999999", LabelSentences::seedRange);
        s.says("Returns the label of node 0 then;", LabelSentences::shuffleAnswer);
        s.says("NONE if there are no nodes.", LabelSentences::shuffleWithoutNodes);
        s.says("Throws IllegalArgumentException if seed is out of range", LabelSentences::seedRefused);
    }

    // ---- 11 and 12

    private static void labelOfANode() {
        IntervalRouter x = Nets.of("3");
        x.turn(1);
        Expect.due("node 0", x.label(0), 1);
        Expect.due("node 1", x.label(1), 2);
        Expect.due("node 2", x.label(2), 0);
    }

    private static void labelRange() {
        Limits.hold("9", 0, 8, INDEX, (x, v) -> x.label(v));
        Limits.hold("1", 0, 0, INDEX, (x, v) -> x.label(v));
    }

    private static void labelAnswer() {
        IntervalRouter x = Nets.of("9");
        x.swapLabels(0, 8);
        Expect.due("the lowest node has the highest label", x.label(0), 8);
        Expect.due("the highest node has the lowest label", x.label(8), 0);
    }

    private static void labelRefused() {
        Limits.refused(LINE, 0, 3, INDEX, (x, v) -> x.label(v));
        Limits.refused("0", 0, -1, INDEX, (x, v) -> x.label(v));
    }

    private static void nodeWithALabel() {
        IntervalRouter x = Nets.of("3");
        x.turn(1);
        Expect.due("label 0", x.nodeWith(0), 2);
        Expect.due("label 1", x.nodeWith(1), 0);
        Expect.due("label 2", x.nodeWith(2), 1);
    }

    private static void nodeWithRange() {
        Limits.hold("9", 0, 8, INDEX, (x, label) -> x.nodeWith(label));
        Limits.hold("1", 0, 0, INDEX, (x, label) -> x.nodeWith(label));
    }

    private static void nodeWithAnswer() {
        IntervalRouter x = Nets.of("9");
        x.shuffle(12);
        for (int v = 0; v < 9; v++) {
            Expect.due("the node", x.nodeWith(x.label(v)), v);
        }
    }

    private static void nodeWithRefused() {
        Limits.refused(LINE, 0, 3, INDEX, (x, label) -> x.nodeWith(label));
        Limits.refused("0", 0, -1, INDEX, (x, label) -> x.nodeWith(label));
        // a label of a larger network is forgotten
        IntervalRouter x = Nets.of("9");
        x.begin(2);
        Expect.index("label 2", () -> x.nodeWith(2));
    }

    // ---- 13

    private static void setsTheLabels() {
        IntervalRouter x = Nets.of(LINE);
        x.makeTables();
        x.setLabels(1, 2);
        Expect.dueText("2, 1, 0, back, 3", Nets.labels(x), "2103");
        Expect.dueText("nothing is left of the labels before", labelsBehind(x, 0, 1), "0123");
        Expect.due("the links stay", x.size(true), 3);
        Expect.yes("that all entries are NONE", Nets.allNone(x));
    }

    private static String labelsBehind(IntervalRouter x, int rule, int r) {
        x.setLabels(rule, r);
        return Nets.labels(x);
    }

    private static void setLabelsUndone() {
        for (int rule = 0; rule <= 3; rule++) {
            int which = rule;
            Twins.undone(LINE, x -> {
                x.shuffle(6);
                x.makeTables();
            }, x -> x.setLabels(which, 2));
        }
        Twins.undone(LINE, x -> { }, x -> x.setLabels(0, 0));
    }

    private static void initialLabels() {
        IntervalRouter x = Nets.of("9;081");
        x.shuffle(3);
        Expect.dueText("labels", labelsBehind(x, 0, 8), "012345678");
        Expect.dueText("once more", labelsBehind(x, 0, 0), "012345678");
    }

    private static void depthFirstLabels() {
        // 0 - 2 (link 0), 0 - 1, 1 - 2, 2 - 3: depth first from 0 visits 2, 1, 3; the ranks are 0 1 2 3
        IntervalRouter x = Nets.of("4;021;011;121;231");
        Expect.dueText("labels", labelsBehind(x, 1, 0), "0213");
        x.shuffle(3);
        Expect.dueText("labels from others", labelsBehind(x, 1, 0), "0213");
    }

    private static void rankLabels() {
        IntervalRouter x = Nets.of("4;029;011;121;231");
        Expect.dueText("distances 0 1 2 3", labelsBehind(x, 2, 0), "0123");
        Expect.dueText("distances 3 2 1 0", labelsBehind(x, 2, 3), "3210");
        Expect.dueText("distances 1 0 1 2", labelsBehind(x, 2, 1), "1023");
    }

    private static void bestLabels() {
        // 1 - 3 - 0 - 2 - 4: the labels of 1 and 3 must not alternate with those of 2 and 4
        IntervalRouter x = Nets.of("5;131;301;021;241");
        Expect.dueText("01234 has two runs, the next one is 01243", labelsBehind(x, 3, 0), "01243");
        IntervalRouter one = Nets.of("1");
        Expect.dueText("a single node", labelsBehind(one, 3, 0), "0");
        IntervalRouter six = Nets.of("6");
        six.shuffle(9);
        Expect.dueText("six nodes without links", labelsBehind(six, 3, 0), "012345");
    }

    private static void rDoesNotMatter() {
        IntervalRouter x = Nets.of("5;131;301;021;241");
        for (int r = 0; r < 5; r++) {
            Expect.dueText("from " + r, labelsBehind(x, 3, r), "01243");
        }
    }

    private static void theOneToStartFrom() {
        IntervalRouter x = Nets.of(LINE);
        for (int r = 0; r < 4; r++) {
            x.setLabels(1, r);
            Expect.due("depth first from " + r, x.label(r), 0);
            x.setLabels(2, r);
            Expect.due("rank from " + r, x.label(r), 0);
        }
    }

    private static void aNodeWithAllRules() {
        for (int rule = 0; rule <= 3; rule++) {
            int which = rule;
            Limits.hold(LINE, 0, 3, INDEX, (x, r) -> x.setLabels(which, r));
            Limits.refused("0", 0, -1, INDEX, (x, r) -> x.setLabels(which, r));
        }
    }

    private static void setLabelsAnswer() {
        Expect.due("initial", Nets.of("9").setLabels(0, 3), 8);
        Expect.due("depth first from the last one", Nets.of(LINE).setLabels(1, 3), 0);
        Expect.due("depth first", Nets.of("4;031;011;121").setLabels(1, 0), 1);
        Expect.due("rank", Nets.of("4;031;012;122").setLabels(2, 0), 1);
        Expect.due("best", Nets.of("5;131;301;021;241").setLabels(3, 0), 3);
        Expect.due("a single node", Nets.of("1").setLabels(0, 0), 0);
    }

    private static void ruleRefused() {
        Limits.hold(LINE, 0, 3, ARGUMENT, (x, rule) -> x.setLabels(rule, 1));
        Limits.refused(LINE, 0, 3, ARGUMENT, (x, rule) -> x.setLabels(rule, 4));
        Limits.refused("0", 0, 3, ARGUMENT, (x, rule) -> x.setLabels(rule, 0));
        Limits.refused("7", 0, 3, ARGUMENT, (x, rule) -> x.setLabels(rule, 0));
    }

    private static void setLabelsNoNode() {
        Limits.refused(LINE, 0, 3, INDEX, (x, r) -> x.setLabels(1, r));
        Limits.refused("7", 0, 6, INDEX, (x, r) -> x.setLabels(3, r));
        Limits.refused("9", 0, 8, INDEX, (x, r) -> x.setLabels(0, r));
    }

    private static void tooManyForTheBest() {
        for (int n = 7; n <= 9; n++) {
            IntervalRouter x = Nets.of(n + ";011");
            Expect.refused(n + " nodes", x, STATE, () -> x.setLabels(3, 0));
            for (int rule = 0; rule <= 2; rule++) {
                Expect.due("rule " + rule + " with " + n + " nodes", x.setLabels(rule, 0), n - 1);
            }
        }
        Expect.due("6 nodes", Nets.of("6").setLabels(3, 0), 5);
    }

    // ---- 14

    private static void exchanges() {
        IntervalRouter x = Nets.of("5");
        x.swapLabels(1, 4);
        Expect.dueText("1 and 4", Nets.labels(x), "04231");
        x.swapLabels(4, 0);
        Expect.dueText("4 and 0", Nets.labels(x), "14230");
        x.swapLabels(0, 4);
        Expect.dueText("back", Nets.labels(x), "04231");
        x.swapLabels(2, 2);
        Expect.dueText("the same node", Nets.labels(x), "04231");
    }

    private static void swapLabelsUndone() {
        Twins.undone(LINE, IntervalRouter::makeTables, x -> x.swapLabels(0, 3));
        Twins.undone(LINE, IntervalRouter::makeTables, x -> x.swapLabels(2, 2));
    }

    private static void swapLabelsFirst() {
        Limits.hold("9", 0, 8, INDEX, (x, u) -> x.swapLabels(u, 4));
    }

    private static void swapLabelsSecond() {
        Limits.hold("9", 0, 8, INDEX, (x, v) -> x.swapLabels(4, v));
    }

    private static void swapLabelsAnswer() {
        IntervalRouter x = Nets.of("9");
        Expect.due("0 and 8", x.swapLabels(0, 8), 8);
        Expect.due("8 and 3", x.swapLabels(8, 3), 3);
        Expect.due("the same node", x.swapLabels(3, 3), 0);
    }

    private static void swapLabelsRefused() {
        Limits.refused(LINE, 0, 3, INDEX, (x, u) -> x.swapLabels(u, 0));
        Limits.refused(LINE, 0, 3, INDEX, (x, v) -> x.swapLabels(0, v));
        Limits.refused(LINE, 0, 3, INDEX, (x, both) -> x.swapLabels(both, both));
        Limits.refused("0", 0, -1, INDEX, (x, both) -> x.swapLabels(both, both));
    }

    // ---- 15

    private static void addsToAllLabels() {
        IntervalRouter x = Nets.of("9");
        x.swapLabels(0, 5);
        x.turn(3);
        Expect.dueText("by 3", Nets.labels(x), "845673012");
        x.turn(0);
        Expect.dueText("by 0", Nets.labels(x), "845673012");
    }

    private static void moduloN() {
        IntervalRouter x = Nets.of("4");
        x.turn(3);
        Expect.dueText("by n - 1", Nets.labels(x), "3012");
        x.turn(4);
        Expect.dueText("by n", Nets.labels(x), "3012");
        x.turn(9);
        Expect.dueText("by 2 n + 1", Nets.labels(x), "0123");
        IntervalRouter one = Nets.of("1");
        Expect.due("a single node", one.turn(9), 0);
        IntervalRouter two = Nets.of("2");
        Expect.due("two nodes", two.turn(9), 1);
    }

    private static void turnUndone() {
        Twins.undone(LINE, IntervalRouter::makeTables, x -> x.turn(1));
        Twins.undone(LINE, IntervalRouter::makeTables, x -> x.turn(0));
        Twins.undone(LINE, IntervalRouter::makeTables, x -> x.turn(8));
    }

    private static void turnRange() {
        for (int by = 0; by <= 9; by++) {
            IntervalRouter x = Nets.of("7");
            Expect.due("by " + by, x.turn(by), by % 7);
        }
    }

    private static void turnAnswer() {
        IntervalRouter x = Nets.of("5");
        x.swapLabels(0, 3);
        Expect.due("3 + 1", x.turn(1), 4);
        Expect.due("4 + 1", x.turn(1), 0);
    }

    private static void turnRefused() {
        Limits.refused(LINE, 0, 9, ARGUMENT, (x, by) -> x.turn(by));
        Limits.refused("0", 0, 9, ARGUMENT, (x, by) -> x.turn(by));
    }

    private static void turnWithoutNodes() {
        for (int by = 0; by <= 9; by++) {
            IntervalRouter x = Nets.of("0");
            int turned = by;
            Expect.refused("by " + by, x, STATE, () -> x.turn(turned));
        }
    }

    // ---- 16

    private static void fromTheInitialLabels() {
        IntervalRouter x = Nets.of("9;011");
        x.shuffle(4711);
        String once = Nets.labels(x);
        x.turn(5);
        x.swapLabels(2, 7);
        x.shuffle(4711);
        Expect.dueText("what was before does not matter", Nets.labels(x), once);
    }

    private static void startsWithTheSeed() {
        // 2 nodes: s is (1103515245 * seed + 12345) modulo 2^31; the labels change places if s / 65536 is even.
        // Seed 0: 12345 / 65536 = 0. Seed 1: 1103527590 / 65536 = 16838. Seed 2: 59559187 / 65536 = 908.
        // Seed 3: 1163074432 / 65536 = 17747. Seed 5: 1222621274 / 65536 = 18655.
        int[] even = {0, 1, 2};
        for (int seed : even) {
            Expect.due("seed " + seed, Nets.of("2").shuffle(seed), 1);
        }
        Expect.due("seed 3", Nets.of("2").shuffle(3), 0);
        Expect.due("seed 5", Nets.of("2").shuffle(5), 0);
    }

    private static void downToOne() {
        Expect.due("one node: nothing is exchanged", Nets.of("1").shuffle(1), 0);
        Expect.due("two nodes: once", Nets.of("2").shuffle(1), 1);
        // seed 0, 3 nodes: i = 2: s = 12345, j = 0: 2 1 0. i = 1: s = 1406932606, 21468 modulo 2 = 0: 1 2 0
        IntervalRouter x = Nets.of("3");
        x.shuffle(0);
        Expect.dueText("three nodes: twice", Nets.labels(x), "120");
    }

    private static void nextNumber() {
        for (int n = 0; n <= 9; n++) {
            for (int seed : new int[] {0, 1, 2, 3, 77, 65535, 65536, 999998, 999999}) {
                IntervalRouter x = Nets.of(Integer.toString(n));
                x.shuffle(seed);
                Expect.dueText(n + " nodes, seed " + seed, Nets.labels(x), shuffled(n, seed));
            }
        }
    }

    private static String shuffled(int n, int seed) {
        StringBuilder labels = new StringBuilder("0123456789".substring(0, n));
        BigInteger s = BigInteger.valueOf(seed);
        for (int i = n - 1; i >= 1; i--) {
            s = s.multiply(BigInteger.valueOf(1103515245)).add(BigInteger.valueOf(12345));
            s = s.mod(BigInteger.valueOf(2147483648L));
            int j = s.divide(BigInteger.valueOf(65536)).mod(BigInteger.valueOf(i + 1)).intValue();
            char kept = labels.charAt(i);
            labels.setCharAt(i, labels.charAt(j));
            labels.setCharAt(j, kept);
        }
        return labels.toString();
    }

    private static void exchangedAtRandom() {
        for (int seed = 1000; seed < 1200; seed++) {
            IntervalRouter x = Nets.of("9");
            x.shuffle(seed);
            Expect.dueText("seed " + seed, Nets.labels(x), shuffled(9, seed));
        }
    }

    private static void shuffleUndone() {
        Twins.undone(LINE, IntervalRouter::makeTables, x -> x.shuffle(2));
        Twins.undone("1", x -> { }, x -> x.shuffle(2));
        Twins.undone("0", x -> { }, x -> x.shuffle(2));
    }

    private static void seedRange() {
        Limits.taken(LINE, 0, 999999, (x, seed) -> x.shuffle(seed));
        Limits.taken("0", 0, 999999, (x, seed) -> x.shuffle(seed));
    }

    private static void shuffleAnswer() {
        for (int n = 1; n <= 9; n++) {
            IntervalRouter x = Nets.of(Integer.toString(n));
            Expect.due(n + " nodes", x.shuffle(31), shuffled(n, 31).charAt(0) - '0');
        }
    }

    private static void shuffleWithoutNodes() {
        Expect.due("a new object", new IntervalRouter().shuffle(0), -1);
        IntervalRouter x = Nets.of("3");
        x.begin(0);
        Expect.due("no nodes any more", x.shuffle(999999), -1);
    }

    private static void seedRefused() {
        Limits.refused(LINE, 0, 999999, ARGUMENT, (x, seed) -> x.shuffle(seed));
        Limits.refused("0", 0, 999999, ARGUMENT, (x, seed) -> x.shuffle(seed));
    }
}
