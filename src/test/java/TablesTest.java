/** Promises 17 to 24. */
public final class TablesTest {
    /** A star: node 0 in the middle, link i to node i + 1. */
    private static final String STAR = "6;011;021;031;041;051";

    public static void main(String[] args) {
        makeTables();
        firstOfEqualTables();
        eightChoices();
        setRange();
        setRangeWrong();
        entry();
        runs();
        runEnd();
        runsAndRunEndWrong();
        sizes();
        compactness();
        bestSize();
        Expect.end();
    }

    private static void makeTables() {
        IntervalRouter x = Nets.of(STAR);
        Expect.due("17: a star", x.makeTables(), 10);
        Expect.dueText("17: the middle", Nets.table(x, 0), ".01234");
        Expect.dueText("17: a leaf", Nets.table(x, 2), "11.111");
        x.setRange(0, 0, 0, 5);
        Expect.due("17: once more", x.makeTables(), 10);
        Expect.dueText("17: what was set by hand is gone", Nets.table(x, 0), ".01234");
        x.undo();
        Expect.dueText("17: undone", Nets.table(x, 0), ".00000");
        x.undo();
        x.undo();
        Expect.due("17: undone", Nets.allNone(x) ? 1 : 0, 1);
        Expect.due("17: without nodes", new IntervalRouter().makeTables(), 0);
        Expect.due("17: a single node", Nets.of("1").makeTables(), 0);
        // what cannot be reached is NONE, and parts a run: 0 - 2 and 1 - 3
        IntervalRouter parts = Nets.of("5;021;241;131");
        Expect.due("17: two parts", parts.makeTables(), 2 + 1 + 2 + 1 + 2);
        Expect.dueText("17: NONE", Nets.table(parts, 0), "..0.0");
        Expect.dueText("17: NONE", Nets.table(parts, 2), "0...1");
        parts.setRange(0, 0, 0, 4);
        parts.makeTables();
        Expect.dueText("17: NONE again", Nets.table(parts, 0), "..0.0");
    }

    private static void firstOfEqualTables() {
        // a ring of 4: node 0 reaches node 2 both ways; of the equal tables the one with link 0 is the first
        IntervalRouter x = Nets.of("4;011;121;231;301");
        Expect.due("17: a ring", x.makeTables(), 8);
        Expect.dueText("17: first", Nets.table(x, 0), ".003");
        Expect.dueText("17: first", Nets.table(x, 1), "0.10");
        // the smaller table is taken before the lexicographically first one
        IntervalRouter y = Nets.of("4;031;011;121;231");
        y.makeTables();
        Expect.dueText("17: node 0", Nets.table(y, 0), ".100");
        IntervalRouter z = Nets.of("5;011;041;121;231;341");
        z.makeTables();
        Expect.dueText("17: a ring of 5", Nets.table(z, 0), ".0011");
        // labels 0 1 2 3 4 5: nodes 0 (own), 1 and 5 over one link each, 2, 3 and 4 over both
        IntervalRouter w = Nets.of("6;051;011;121;131;141;521;531;541");
        w.makeTables();
        Expect.dueText("17: the lowest link as early as it costs nothing", Nets.table(w, 0), ".10000");
        w.swapLabels(1, 3);
        w.makeTables();
        // both for the labels 1, 2 and 4, link 1 for 3, link 0 for 5
        Expect.dueText("17: the first label before the others", Nets.table(w, 0), ".00100");
    }

    private static void eightChoices() {
        IntervalRouter x = Nets.eightWays();
        Expect.due("24: label 8 goes with label 1 or 7", x.bestSize(0), 7);
        x.makeTables();
        Expect.dueText("17: with the lower one", Nets.table(x, 0), ".01234560");
        Expect.dueText("17: the other end", Nets.table(x, 8), "889abcde.");
        Expect.dueText("17: all others over either end", Nets.table(x, 1), "0.0000008");
        x.swapLabels(8, 4);
        x.makeTables();
        Expect.dueText("17: between its neighbours", Nets.table(x, 0), ".01224563");
    }

    private static void setRange() {
        IntervalRouter x = Nets.of(STAR);
        Expect.due("18: an interval", x.setRange(0, 2, 2, 4), 3);
        Expect.dueText("18: an interval", Nets.table(x, 0), "..222.");
        Expect.due("18: over the end of the circle", x.setRange(0, 4, 4, 2), 4);
        Expect.dueText("18: the own label is left out", Nets.table(x, 0), ".44244");
        Expect.due("18: nothing new", x.setRange(0, 4, 4, 5), 0);
        Expect.due("18: saved all the same", x.undo(), 3);
        Expect.due("18: one label", x.setRange(0, 0, 3, 3), 1);
        Expect.due("18: the own label alone", x.setRange(0, 0, 0, 0), 0);
        Expect.due("18: all around", x.setRange(0, 1, 3, 2), 5);
        Expect.dueText("18: all around", Nets.table(x, 0), ".11111");
        Expect.due("18: NONE", x.setRange(0, -1, 5, 1), 2);
        Expect.dueText("18: NONE", Nets.table(x, 0), "..111.");
        Expect.due("18: the other nodes keep theirs", x.tableSize(1), 0);
        x.undo();
        Expect.dueText("18: undone", Nets.table(x, 0), ".11111");
        IntervalRouter one = Nets.of("1");
        Expect.due("18: a single node", one.setRange(0, -1, 0, 0), 0);
    }

    private static void setRangeWrong() {
        IntervalRouter x = Nets.of(STAR);
        x.makeTables();
        long before = x.digest();
        Expect.index("18: node 6", () -> x.setRange(6, 0, 0, 0));
        Expect.index("18: node -1", () -> x.setRange(-1, 0, 0, 0));
        Expect.index("18: link 5", () -> x.setRange(0, 5, 0, 0));
        Expect.index("18: link -2", () -> x.setRange(0, -2, 0, 0));
        Expect.index("18: from -1", () -> x.setRange(0, 0, -1, 0));
        Expect.index("18: from 6", () -> x.setRange(0, 0, 6, 0));
        Expect.index("18: to -1", () -> x.setRange(0, 0, 0, -1));
        Expect.index("18: to 6", () -> x.setRange(0, 0, 0, 6));
        Expect.index("18: a foreign link, and no such label", () -> x.setRange(1, 1, 0, 6));
        Expect.argument("18: a foreign link", () -> x.setRange(1, 1, 0, 5));
        Expect.due("18: refused calls change nothing", x.digest(), before);
    }

    private static void entry() {
        IntervalRouter x = Nets.of(STAR);
        Expect.due("19: initially", x.entry(0, 1), -1);
        x.makeTables();
        Expect.due("19: a link", x.entry(0, 5), 4);
        Expect.due("19: the own label", x.entry(3, 3), -1);
        x.turn(1);
        x.makeTables();
        Expect.due("19: by label, not by node", x.entry(0, 0), 4);
        Expect.due("19: the own label", x.entry(0, 1), -1);
        Expect.index("19: node 6", () -> x.entry(6, 0));
        Expect.index("19: node -1", () -> x.entry(-1, 0));
        Expect.index("19: label 6", () -> x.entry(0, 6));
        Expect.index("19: label -1", () -> x.entry(0, -1));
    }

    private static void runs() {
        IntervalRouter x = Nets.of(STAR);
        Expect.due("20: none", x.runs(0, 0), 0);
        x.setRange(0, 0, 1, 1);
        Expect.due("20: one", x.runs(0, 0), 1);
        x.setRange(0, 0, 3, 3);
        Expect.due("20: two", x.runs(0, 0), 2);
        x.setRange(0, 0, 5, 5);
        Expect.due("20: the last label is next to the first one, over the own one", x.runs(0, 0), 2);
        x.setRange(0, 0, 0, 5);
        Expect.due("20: all around", x.runs(0, 0), 1);
        Expect.due("20: another link", x.runs(0, 1), 0);
        // the own label in the middle does not part a run
        x.setRange(3, 2, 2, 4);
        Expect.due("20: over the own label", x.runs(3, 2), 1);
        IntervalRouter two = Nets.of("2;011");
        two.setRange(0, 0, 1, 1);
        Expect.due("20: one label alone", two.runs(0, 0), 1);
        IntervalRouter three = Nets.of("3;011;021");
        three.makeTables();
        Expect.due("20: two labels", three.runs(0, 0), 1);
        Expect.due("20: two labels", three.runs(0, 1), 1);
    }

    private static void runEnd() {
        IntervalRouter x = Nets.of("7;011;021;031;041;051;061");
        x.swapLabels(0, 3);
        // own label 3; entries 0 0 1 . 0 1 0 for the labels 0 to 6
        x.setRange(0, 0, 0, 6);
        x.setRange(0, 1, 2, 2);
        x.setRange(0, 1, 5, 5);
        Expect.dueText("21: the table", Nets.table(x, 0), "001.010");
        Expect.due("21: runs", x.runs(0, 0), 2);
        Expect.due("21: the first begins at 4", x.runEnd(0, 0, 0, false), 4);
        Expect.due("21: and ends there", x.runEnd(0, 0, 0, true), 4);
        Expect.due("21: the second begins at 6", x.runEnd(0, 0, 1, false), 6);
        Expect.due("21: and ends behind the end of the circle", x.runEnd(0, 0, 1, true), 1);
        Expect.due("21: the other link", x.runEnd(0, 1, 0, false), 2);
        Expect.due("21: the other link", x.runEnd(0, 1, 1, false), 5);
        x.setRange(0, 2, 2, 4);
        Expect.due("21: over the own label", x.runEnd(0, 2, 0, false), 2);
        Expect.due("21: over the own label", x.runEnd(0, 2, 0, true), 4);
        x.setRange(0, 2, 0, 6);
        Expect.due("21: all around", x.runEnd(0, 2, 0, false), 0);
        Expect.due("21: all around", x.runEnd(0, 2, 0, true), 6);
        x.setRange(3, 2, 0, 6);
        Expect.due("21: all around, own label 0", x.runEnd(3, 2, 0, false), 1);
        Expect.due("21: all around, own label 0", x.runEnd(3, 2, 0, true), 6);
        x.setRange(6, 5, 0, 6);
        Expect.due("21: all around, own label 6", x.runEnd(6, 5, 0, false), 0);
        Expect.due("21: all around, own label 6", x.runEnd(6, 5, 0, true), 5);
    }

    private static void runsAndRunEndWrong() {
        IntervalRouter x = Nets.of(STAR);
        x.makeTables();
        Expect.index("20: node 6", () -> x.runs(6, 0));
        Expect.index("20: node -1", () -> x.runs(-1, 0));
        Expect.index("20: link 5", () -> x.runs(0, 5));
        Expect.index("20: NONE is no link", () -> x.runs(0, -1));
        Expect.argument("20: a foreign link", () -> x.runs(1, 1));
        Expect.index("21: node 6", () -> x.runEnd(6, 0, 0, true));
        Expect.index("21: link 5", () -> x.runEnd(0, 5, 0, true));
        Expect.index("21: NONE is no link", () -> x.runEnd(0, -1, 0, true));
        Expect.index("21: a foreign link", () -> x.runEnd(1, 1, 0, true));
        Expect.index("21: run 1", () -> x.runEnd(0, 0, 1, false));
        Expect.index("21: run -1", () -> x.runEnd(0, 0, -1, false));
        x.setRange(0, -1, 0, 5);
        Expect.index("21: no run", () -> x.runEnd(0, 0, 0, false));
    }

    private static void sizes() {
        IntervalRouter x = Nets.of(STAR);
        Expect.due("22: empty", x.tableSize(-1), 0);
        Expect.due("22: empty", x.tableSize(0), 0);
        x.makeTables();
        Expect.due("22: the middle", x.tableSize(0), 5);
        Expect.due("22: a leaf", x.tableSize(5), 1);
        Expect.due("22: the network", x.tableSize(-1), 10);
        x.setRange(0, -1, 3, 3);
        Expect.due("22: NONE is no run", x.tableSize(0), 4);
        x.setRange(1, -1, 3, 3);
        Expect.due("22: NONE in a circle", x.tableSize(1), 1);
        Expect.index("22: node 6", () -> x.tableSize(6));
        Expect.index("22: node -2", () -> x.tableSize(-2));
    }

    private static void compactness() {
        IntervalRouter x = Nets.of("7;011;021;031;041;051;061");
        Expect.due("23: empty", x.compactness(), 0);
        Expect.due("23: without nodes", new IntervalRouter().compactness(), 0);
        x.setRange(1, 0, 2, 2);
        Expect.due("23: one", x.compactness(), 1);
        x.setRange(1, 0, 4, 4);
        x.setRange(1, 0, 6, 6);
        Expect.due("23: three", x.compactness(), 3);
        x.setRange(1, 0, 0, 0);
        Expect.due("23: two have become one, over the own label", x.compactness(), 2);
        x.setRange(1, 0, 0, 6);
        Expect.due("23: all around", x.compactness(), 1);
        Expect.due("23: the size of a node does not count", x.makeTables(), 12);
        Expect.due("23: the size of a node does not count", x.compactness(), 1);
    }

    private static void bestSize() {
        IntervalRouter x = Nets.of("5;131;301;021;241");
        Expect.due("24: the middle, alternating", x.bestSize(0), 4);
        Expect.due("24: an end", x.bestSize(1), 1);
        Expect.due("24: the tables stay", Nets.allNone(x) ? 1 : 0, 1);
        x.swapLabels(3, 4);
        Expect.due("24: with other labels", x.bestSize(0), 2);
        Expect.due("24: apart", Nets.of("2").bestSize(1), 0);
        Expect.due("24: a single node", Nets.of("1").bestSize(0), 0);
        Expect.index("24: node 5", () -> x.bestSize(5));
        Expect.index("24: node -1", () -> x.bestSize(-1));
    }
}
