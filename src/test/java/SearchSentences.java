import java.util.ArrayList;
import java.util.List;

/** The sentences of the promises 33 and 34. */
final class SearchSentences {
    private static final Class<IllegalArgumentException> ARGUMENT = IllegalArgumentException.class;
    private static final Class<IllegalStateException> STATE = IllegalStateException.class;

    /** 1 - 3 - 0 - 2 - 4: with a third of the labelings the middle has two runs a link. */
    private static final String LINE = "5;131;301;021;241";

    /**
     * 0, 2 and 4 are joined, with 2 - 4 as long as the way over 0; 1 and 3 are apart. With all labelings the
     * compactness is 1; the size is 4 if the labels of 0, 2 and 4 are next to one another, and else 5 or 6.
     */
    private static final String THREE = "5;243;202;041";

    /** The labelings have the compactness 1 or 2 and the sizes 6 to 8. */
    private static final String VARIED = "5;143;011;241;022;401";

    /** With the initial labels the compactness is 2 and the size 11; no labeling with the compactness 1 is so small. */
    private static final String LARGER = "6;502;041;541;412;212;252;101";

    private SearchSentences() {
    }

    static void tell(Sentences s) {
        s.promise(33);
        s.says("Returns the smallest compactness of best tables that a labeling can have.",
                SearchSentences::smallestCompactness);
        s.says("(Without nodes there is one labeling, with the compactness 0.)", SearchSentences::withoutNodes);
        s.says("The best labeling is, of the labelings with it,", SearchSentences::bestLabelingHasIt);
        s.says("one with the smallest size of the network;", SearchSentences::smallestSize);
        s.says("of several the one whose labels, in the order of the nodes, are lexicographically first.",
                SearchSentences::lexicographicallyFirst);
        s.says("Returns the smallest compactness.", SearchSentences::searchChangesNothing);
        s.says("Throws IllegalStateException if there are more than 6 nodes", SearchSentences::tooMany);
        s.promise(34);
        s.says("Counts the labelings with which the compactness of the best tables is at most a limit.",
                SearchSentences::countsLabelings);
        s.says("limit: 0 to 9", SearchSentences::limits);
        s.says("Returns their number.", SearchSentences::numbers);
        s.says("Throws IllegalArgumentException if limit is out of range", SearchSentences::limitRefused);
        s.says("Throws IllegalStateException if there are more than 6 nodes", SearchSentences::tooManyToCount);
    }

    /** All labelings, in lexicographic order. */
    private static void allLabelings(String rest, String before, List<String> into) {
        if (rest.isEmpty()) {
            into.add(before);
        }
        for (int i = 0; i < rest.length(); i++) {
            allLabelings(rest.substring(0, i) + rest.substring(i + 1), before + rest.charAt(i), into);
        }
    }

    private static List<String> allLabelings(int n) {
        List<String> out = new ArrayList<>();
        allLabelings("012345".substring(0, n), "", out);
        return out;
    }

    /** The compactness and the size of the best tables, found by makeTables() with labels set by hand. */
    private static int[] worth(String net, String labels) {
        IntervalRouter x = Nets.of(net);
        for (int v = 0; v < labels.length(); v++) {
            x.swapLabels(v, x.nodeWith(labels.charAt(v) - '0'));
        }
        int size = x.makeTables();
        return new int[] {x.compactness(), size};
    }

    private static int countByHand(String net, int limit) {
        int count = 0;
        for (String labels : allLabelings(net.charAt(0) - '0')) {
            if (worth(net, labels)[0] <= limit) {
                count++;
            }
        }
        return count;
    }

    private static void smallestCompactness() {
        Expect.due("a line", Nets.of(LINE).bestCompactness(), 1);
        Expect.due("a ring", Nets.of("6;011;121;231;341;451;501").bestCompactness(), 1);
        Expect.due("two nodes", Nets.of("2;011").bestCompactness(), 1);
        Expect.due("without links", Nets.of("6").bestCompactness(), 0);
        Expect.due("a single node", Nets.of("1").bestCompactness(), 0);
        // a ring of 1, 3, 4, 2 and 5, whose runs are parted by the label of node 0, which is apart, wherever it is
        Expect.due("a ring and a node alone", Nets.of("6;151;341;311;251;421").bestCompactness(), 2);
        IntervalRouter x = Nets.of(LINE);
        x.makeTables();
        Expect.due("the labels that it has are not the best", x.compactness(), 2);
        Expect.due("which does not matter", x.bestCompactness(), 1);
        int least = 9;
        for (String labels : allLabelings(5)) {
            least = Math.min(least, worth(VARIED, labels)[0]);
        }
        Expect.due("a varied network", Nets.of(VARIED).bestCompactness(), least);
    }

    private static void withoutNodes() {
        IntervalRouter x = new IntervalRouter();
        Expect.due("compactness", x.bestCompactness(), 0);
        Expect.due("labelings up to 0", x.labelings(0), 1);
        Expect.due("labelings up to 9", x.labelings(9), 1);
        IntervalRouter y = Nets.of(LINE);
        y.bestCompactness();
        y.begin(0);
        Expect.due("no nodes any more", y.bestCompactness(), 0);
        Expect.due("no nodes any more", y.labelings(0), 1);
    }

    private static void bestLabelingHasIt() {
        for (String net : new String[] {LINE, VARIED, "6;011;021;031;121;143;252;341;451;531", "4;011;231"}) {
            IntervalRouter x = Nets.of(net);
            int least = x.bestCompactness();
            x.setLabels(3, 0);
            x.makeTables();
            Expect.due("the compactness of the best labeling of " + net, x.compactness(), least);
        }
        int[] initial = worth(LARGER, "012345");
        int[] best = worth(LARGER, bestOf(LARGER));
        Expect.due("the compactness with the initial labels", initial[0], 2);
        Expect.due("the compactness with the best labels", best[0], 1);
        Expect.yes("that the size comes only then", initial[1] < best[1]);
    }

    private static String bestOf(String net) {
        IntervalRouter x = Nets.of(net);
        x.setLabels(3, 0);
        return Nets.labels(x);
    }

    private static void smallestSize() {
        Expect.due("that of three nodes", worth(THREE, bestOf(THREE))[1], 4);
        Expect.due("with the initial labels", worth(THREE, "01234")[1], 5);
        for (String net : new String[] {LINE, VARIED, THREE, "5;012;121;231;341;401;031", "5;011;121;231;341;401"}) {
            int[] best = worth(net, bestOf(net));
            for (String labels : allLabelings(5)) {
                int[] other = worth(net, labels);
                Expect.yes("that " + labels + " is not smaller in " + net,
                        other[0] != best[0] || other[1] >= best[1]);
            }
        }
        Expect.due("that of a line", worth(LINE, bestOf(LINE))[1], 8);
    }

    private static void lexicographicallyFirst() {
        Expect.dueText("without links", bestOf("4"), "0123");
        Expect.dueText("a ring", bestOf("4;011;121;231;301"), "0123");
        Expect.dueText("a line", bestOf(LINE), "01243");
        // with 1 at 1, the three nodes must have 3, 4 and 0
        Expect.dueText("three nodes", bestOf(THREE), "01324");
        for (String net : new String[] {VARIED, "5;012;121;231;341;401;031", "5;021;241;411;131"}) {
            int[] best = worth(net, bestOf(net));
            String first = "";
            for (String labels : allLabelings(5)) {
                int[] other = worth(net, labels);
                if (first.isEmpty() && other[0] == best[0] && other[1] == best[1]) {
                    first = labels;
                }
            }
            Expect.dueText("the first of the best of " + net, bestOf(net), first);
        }
    }

    private static void searchChangesNothing() {
        Twins.leaveNoTrace(LINE, x -> {
            x.turn(2);
            x.makeTables();
        }, x -> {
            Expect.due("once", x.bestCompactness(), 1);
            Expect.due("twice", x.bestCompactness(), 1);
            Expect.due("labelings", x.labelings(1), 80);
        });
    }

    private static void tooMany() {
        for (int n = 7; n <= 9; n++) {
            IntervalRouter x = Nets.of(n + ";011");
            Expect.refused(n + " nodes", x, STATE, x::bestCompactness);
        }
        Expect.due("6 nodes", Nets.of("6;011").bestCompactness(), 1);
    }

    private static void countsLabelings() {
        // two thirds of the circular orders of two pairs do not alternate
        IntervalRouter x = Nets.of(LINE);
        Expect.due("up to 0", x.labelings(0), 0);
        Expect.due("up to 1", x.labelings(1), 80);
        Expect.due("up to 2", x.labelings(2), 120);
        for (int limit = 0; limit <= 3; limit++) {
            int due = countByHand(VARIED, limit);
            Expect.due("a varied network, up to " + limit, Nets.of(VARIED).labelings(limit), due);
        }
    }

    private static void limits() {
        Limits.taken(LINE, 0, 9, (x, limit) -> x.labelings(limit));
        Limits.taken("0", 0, 9, (x, limit) -> x.labelings(limit));
        Expect.due("0", Nets.of("3").labelings(0), 6);
        Expect.due("0 with a link", Nets.of("3;011").labelings(0), 0);
        Expect.due("9", Nets.of("3;011").labelings(9), 6);
    }

    private static void numbers() {
        int[] due = {1, 1, 2, 6, 24, 120, 720};
        for (int n = 0; n <= 6; n++) {
            IntervalRouter x = Nets.of(Integer.toString(n));
            Expect.due("without links, " + n + " nodes", x.labelings(0), due[n]);
            Expect.due("without links, " + n + " nodes", x.labelings(9), due[n]);
        }
        // each network anew, on one object
        IntervalRouter x = Nets.of(LINE);
        Expect.due("a line", x.labelings(1), 80);
        x.removeLink(3);
        Expect.due("node 4 is apart", x.labelings(1), countByHand("5;131;301;021", 1));
        x.undo();
        Expect.due("the line again", x.labelings(1), 80);
        x.begin(5);
        Expect.due("no links", x.labelings(0), 120);
        x.begin(3);
        Expect.due("fewer nodes", x.labelings(9), 6);
        Expect.due("a star", Nets.of("6;501;511;521;531;541").labelings(1), 720);
        Expect.due("a star", Nets.of("6;501;511;521;531;541").labelings(0), 0);
    }

    private static void limitRefused() {
        Limits.refused(LINE, 0, 9, ARGUMENT, (x, limit) -> x.labelings(limit));
        Limits.refused("7", 0, 9, ARGUMENT, (x, limit) -> x.labelings(limit));
        Limits.refused("0", 0, 9, ARGUMENT, (x, limit) -> x.labelings(limit));
    }

    private static void tooManyToCount() {
        for (int n = 7; n <= 9; n++) {
            IntervalRouter x = Nets.of(n + ";011");
            Expect.refused(n + " nodes, up to 0", x, STATE, () -> x.labelings(0));
            Expect.refused(n + " nodes, up to 9", x, STATE, () -> x.labelings(9));
        }
        Expect.due("6 nodes", Nets.of("6;011").labelings(9), 720);
    }
}
