import java.math.BigInteger;
import java.util.ArrayList;
import java.util.List;

/** The sentences of the promises 38 and 39. */
final class StateSentences {
    private static final Class<IllegalStateException> STATE = IllegalStateException.class;

    private StateSentences() {
    }

    static void tell(Sentences s) {
        s.promise(38);
        s.says("Restores the most recently saved state", StateSentences::mostRecentState);
        s.says("and removes it from the saved states.", StateSentences::removedState);
        s.says("Returns the number of saved states that remain.", StateSentences::remaining);
        s.says("Throws IllegalStateException if there is no saved state", StateSentences::nothingSaved);
        s.promise(39);
        s.leads("Returns a hash of the state.");
        s.says("Start with h = 3083 and, for each of the following values v, set h = 31 * h + v:",
                StateSentences::startOfTheHash);
        s.says("the length of the text;", StateSentences::hashOfTheText);
        s.says("the number of nodes;", StateSentences::hashOfTheNodes);
        s.says("the number of links and, for each of them, the values of link() for what = 0 to 2;",
                StateSentences::hashOfTheLinks);
        s.says("the labels of all nodes;", StateSentences::hashOfTheLabels);
        s.says("for each node all its entries in the order of the labels (NONE for its own label, too);",
                StateSentences::hashOfTheEntries);
        s.says("tableSize(NONE);", StateSentences::hashOfTheSize);
        s.says("compactness();", StateSentences::hashOfTheCompactness);
        s.says("checked() for 0 to 4;", StateSentences::hashOfTheChecks);
        s.says("arriving();", StateSentences::hashOfTheLetters);
        s.says("the number of saved states.", StateSentences::hashOfTheSavedStates);
        s.says("Returns the hash, with the overflow of long arithmetic ignored.", StateSentences::overflow);
    }

    // ---- 38

    private static void mostRecentState() {
        IntervalRouter x = Nets.of("4;011;121;231");
        x.makeTables();
        x.setRange(1, 1, 0, 3);
        x.turn(3);
        x.undo();
        Expect.dueText("labels before turn()", Nets.labels(x), "0123");
        Expect.dueText("the table before turn()", Nets.table(x, 1), "1.11");
        x.undo();
        Expect.dueText("the table before setRange()", Nets.table(x, 1), "0.11");
        x.undo();
        Expect.dueText("the table before makeTables()", Nets.table(x, 1), "....");
        x.undo();
        Expect.due("nodes before parse()", x.size(false), 0);
        IntervalRouter y = Nets.of("3;011;121");
        y.setLength(0, 9);
        y.undo();
        Expect.due("a distance before setLength()", y.distance(0, 2), 2);
    }

    private static void removedState() {
        IntervalRouter x = new IntervalRouter();
        x.begin(1);
        x.begin(2);
        x.undo();
        x.begin(3);
        x.undo();
        Expect.due("nodes before begin(3)", x.size(false), 1);
        x.undo();
        Expect.due("nodes before begin(1)", x.size(false), 0);
        Expect.state("undo() is not saved itself", x::undo);
    }

    private static void remaining() {
        IntervalRouter x = new IntervalRouter();
        for (int n = 1; n <= 4; n++) {
            x.begin(n);
        }
        for (int left = 3; left >= 0; left--) {
            Expect.due("left of 4", x.undo(), left);
        }
        for (int n = 1; n <= 9; n++) {
            x.begin(n);
        }
        Expect.due("left of 9, of which 5 were dropped", x.undo(), 3);
        x.begin(1);
        x.begin(2);
        Expect.due("left, with one dropped", x.undo(), 3);
    }

    private static void nothingSaved() {
        IntervalRouter x = new IntervalRouter();
        Expect.refused("a new object", x, STATE, x::undo);
        x.append('3');
        Expect.refused("only a text", x, STATE, x::undo);
        x.parse();
        x.undo();
        Expect.refused("all were taken back", x, STATE, x::undo);
        x.begin(3);
        Expect.due("it goes on", x.undo(), 0);
    }

    // ---- 39

    private static long hash(List<Integer> values) {
        BigInteger h = BigInteger.valueOf(3083);
        for (int value : values) {
            h = h.multiply(BigInteger.valueOf(31)).add(BigInteger.valueOf(value));
        }
        return h.longValue();
    }

    private static long hash(int... values) {
        List<Integer> list = new ArrayList<>();
        for (int value : values) {
            list.add(value);
        }
        return hash(list);
    }

    /** The hash of what the other calls answer. */
    private static long hashOf(IntervalRouter x, int textLength, int saved) {
        List<Integer> values = new ArrayList<>(List.of(textLength, x.size(false), x.size(true)));
        for (int link = 0; link < x.size(true); link++) {
            for (int what = 0; what <= 2; what++) {
                values.add(x.link(link, what));
            }
        }
        int n = x.size(false);
        for (int v = 0; v < n; v++) {
            values.add(x.label(v));
        }
        for (int v = 0; v < n; v++) {
            for (int label = 0; label < n; label++) {
                values.add(x.entry(v, label));
            }
        }
        values.add(x.tableSize(-1));
        values.add(x.compactness());
        for (int result = 0; result <= 4; result++) {
            values.add(x.checked(result));
        }
        values.addAll(List.of(x.arriving(), saved));
        return hash(values);
    }

    private static void startOfTheHash() {
        Expect.due("a new object: twelve zeros", new IntervalRouter().digest(), hash(new int[12]));
        // 3083 * 31^12 modulo 2^64
        BigInteger due = BigInteger.valueOf(3083).multiply(BigInteger.valueOf(31).pow(12));
        Expect.due("a new object", new IntervalRouter().digest(), due.longValue());
    }

    private static void hashOfTheText() {
        IntervalRouter x = new IntervalRouter();
        x.append('x');
        Expect.due("one byte", x.digest(), hash(1, 0, 0, 0, 0, 0, 0, 0, 0, 0, 0, 0));
        x.append('y');
        Expect.due("two bytes", x.digest(), hash(2, 0, 0, 0, 0, 0, 0, 0, 0, 0, 0, 0));
        Nets.lengthen(x, 2, 100);
        Expect.due("100 bytes", x.digest(), hash(100, 0, 0, 0, 0, 0, 0, 0, 0, 0, 0, 0));
        x.clearText();
        Expect.due("no bytes", x.digest(), hash(new int[12]));
    }

    private static void hashOfTheNodes() {
        IntervalRouter x = new IntervalRouter();
        x.begin(1);
        // the label 0, the entry NONE, and the pair of the node with itself
        Expect.due("one node", x.digest(), hash(0, 1, 0, 0, -1, 0, 0, 1, 0, 0, 0, 0, 0, 1));
        x.begin(2);
        Expect.due("two nodes", x.digest(), hash(0, 2, 0, 0, 1, -1, -1, -1, -1, 0, 0, 2, 0, 0, 0, 2, 0, 2));
    }

    private static void hashOfTheLinks() {
        IntervalRouter x = new IntervalRouter();
        x.begin(2);
        x.addLink(1, 0, 7);
        Expect.due("one link", x.digest(), hash(0, 2, 1, 1, 0, 7, 0, 1, -1, -1, -1, -1, 0, 0, 2, 0, 0, 2, 0, 0, 2));
        IntervalRouter full = Nets.full();
        Expect.due("16 links", full.digest(), hashOf(full, 65, 1));
    }

    private static void hashOfTheLabels() {
        IntervalRouter x = new IntervalRouter();
        x.begin(2);
        x.turn(1);
        Expect.due("1 0", x.digest(), hash(0, 2, 0, 1, 0, -1, -1, -1, -1, 0, 0, 2, 0, 0, 0, 2, 0, 2));
        IntervalRouter nine = Nets.of("9");
        nine.shuffle(3);
        Expect.due("9 labels", nine.digest(), hashOf(nine, 1, 2));
    }

    private static void hashOfTheEntries() {
        IntervalRouter x = new IntervalRouter();
        x.begin(2);
        x.addLink(0, 1, 1);
        x.turn(1);
        x.setRange(0, 0, 0, 1);
        // node 0 has the label 1: its entries are 0 and NONE
        Expect.due("in the order of the labels", x.digest(),
                hash(0, 2, 1, 0, 1, 1, 1, 0, 0, -1, -1, -1, 1, 1, 2, 1, 0, 1, 0, 1, 4));
        IntervalRouter full = Nets.full();
        full.shuffle(5);
        full.makeTables();
        Expect.due("7 nodes with tables", full.digest(), hashOf(full, 65, 3));
    }

    /** Node 0 of five has entries by hand: the labels 1 and 3 over link 0. */
    private static IntervalRouter twoRuns() {
        IntervalRouter x = new IntervalRouter();
        x.begin(5);
        x.addLink(0, 1, 1);
        x.setRange(0, 0, 1, 1);
        x.setRange(0, 0, 3, 3);
        return x;
    }

    /** The values for twoRuns(); the last nine: size, compactness, five checks, arriving letters, saved states. */
    private static int[] valuesOfTwoRuns() {
        int[] values = new int[3 + 3 + 5 + 25 + 9];
        int[] head = {0, 5, 1, 0, 1, 1, 0, 1, 2, 3, 4};
        System.arraycopy(head, 0, values, 0, 11);
        java.util.Arrays.fill(values, 11, 36, -1);
        values[11 + 1] = 0;
        values[11 + 3] = 0;
        int[] tail = {2, 2, 5, 1, 0, 1, 18, 1, 4};
        System.arraycopy(tail, 0, values, 36, 9);
        return values;
    }

    private static void hashOfTheSize() {
        IntervalRouter x = twoRuns();
        Expect.due("tableSize(NONE)", x.tableSize(-1), 2);
        Expect.due("size 2", x.digest(), hash(valuesOfTwoRuns()));
        IntervalRouter star = Nets.of("5;401;411;421;431");
        star.makeTables();
        Expect.due("size 8", star.digest(), hashOf(star, 17, 2));
    }

    private static void hashOfTheCompactness() {
        IntervalRouter x = twoRuns();
        x.setRange(0, 0, 2, 2);
        // one run now, with a size of 1; the letters to 2 and 3 do not arrive
        int[] values = valuesOfTwoRuns();
        values[11 + 2] = 0;
        values[36] = 1;
        values[37] = 1;
        Expect.due("compactness 1", x.digest(), hash(values));
        x.setRange(0, -1, 2, 2);
        Expect.due("compactness 2", x.digest(), hash(valuesOfTwoRuns()));
    }

    private static void hashOfTheChecks() {
        // 0 the same 5, 1 good 10, 2 not good 1, 3 NONE 1, 4 no way 8
        IntervalRouter x = Nets.of("5;011;121;231;305");
        x.makeTables();
        x.setRange(0, 3, 3, 3);
        x.setRange(1, -1, 3, 3);
        int[] due = {5, 10, 1, 1, 8};
        for (int result = 0; result <= 4; result++) {
            Expect.due("checked(" + result + ")", x.checked(result), due[result]);
        }
        Expect.due("five different checks", x.digest(), hashOf(x, 17, 4));
    }

    private static void hashOfTheLetters() {
        IntervalRouter x = Nets.of("4;011;121;231");
        Expect.due("no letters", x.digest(), hashOf(x, 13, 1));
        x.makeTables();
        Expect.due("12 letters", x.digest(), hashOf(x, 13, 2));
        x.setRange(2, 1, 3, 3);
        Expect.due("arriving()", x.arriving(), 9);
        Expect.due("9 letters", x.digest(), hashOf(x, 13, 3));
    }

    private static void hashOfTheSavedStates() {
        IntervalRouter x = new IntervalRouter();
        for (int calls = 1; calls <= 6; calls++) {
            x.begin(0);
            int saved = Math.min(calls, 4);
            Expect.due(calls + " calls", x.digest(), hash(0, 0, 0, 0, 0, 0, 0, 0, 0, 0, 0, saved));
        }
        for (int saved = 3; saved >= 0; saved--) {
            x.undo();
            Expect.due("behind undo()", x.digest(), hash(0, 0, 0, 0, 0, 0, 0, 0, 0, 0, 0, saved));
        }
    }

    private static void overflow() {
        int negative = 0;
        for (int seed = 0; seed < 8; seed++) {
            IntervalRouter x = Nets.of(Nets.sixteen());
            x.shuffle(seed);
            x.makeTables();
            Expect.due("9 nodes with 16 links, seed " + seed, x.digest(), hashOf(x, 65, 3));
            negative += x.digest() < 0 ? 1 : 0;
        }
        Expect.yes("that hashes have both signs", negative > 0 && negative < 8);
        // twelve factors 31 alone are beyond 2^63
        Expect.yes("that the sum was too large", BigInteger.valueOf(3083).multiply(BigInteger.valueOf(31).pow(12))
                .bitLength() > 63);
    }
}
