/** The sentences of the promises 17 to 24. */
final class TableSentences {
    private static final Class<IndexOutOfBoundsException> INDEX = IndexOutOfBoundsException.class;
    private static final Class<IllegalArgumentException> ARGUMENT = IllegalArgumentException.class;

    private static final String LINE = "4;011;121;231";

    /** Node 2 in the middle, its links 0 to 5 go to the nodes 0, 1, 3, 4, 5 and 6. */
    private static final String STAR = "7;201;211;231;241;251;261";

    private TableSentences() {
    }

    static void tell(Sentences s) {
        makeTables(s);
        setRange(s);
        entry(s);
        runs(s);
        runEnd(s);
        sizes(s);
    }

    private static void makeTables(Sentences s) {
        s.promise(17);
        s.says("Makes the tables of all nodes the best ones.", TableSentences::bestTables);
        s.says("Undoable.", TableSentences::makeTablesUndone);
        s.says("Returns the size of the network then.", TableSentences::makeTablesAnswer);
    }

    private static void setRange(Sentences s) {
        s.promise(18);
        s.says("Makes an entry for the labels of an interval", TableSentences::setsAnInterval);
        s.says("(the own label of the node excepted).", TableSentences::ownLabelExcepted);
        s.says("Undoable.", TableSentences::setRangeUndone);
        s.says("v: a node", TableSentences::setRangeNode);
        s.says("link: a link of the node, or NONE", TableSentences::setRangeLink);
        s.says("from: a label", TableSentences::setRangeFrom);
        s.says("to: a label", TableSentences::setRangeTo);
        s.says("Returns the number of entries that have changed.", TableSentences::setRangeAnswer);
        s.says("Throws IndexOutOfBoundsException if there is no such node, link or label",
                TableSentences::setRangeOutOfBounds);
        s.says("Throws IllegalArgumentException if the link is not one of the node", TableSentences::setRangeForeign);
    }

    private static void entry(Sentences s) {
        s.promise(19);
        s.says("Returns an entry.", TableSentences::entryOfALabel);
        s.says("v: a node", TableSentences::entryNode);
        s.says("label: a label", TableSentences::entryLabel);
        s.says("Returns the link, or NONE.", TableSentences::entryAnswer);
        s.says("Throws IndexOutOfBoundsException if there is no such node or label", TableSentences::entryRefused);
    }

    private static void runs(Sentences s) {
        s.promise(20);
        s.says("Returns the number of runs of a link at a node.", TableSentences::runsOfALink);
        s.says("v: a node", TableSentences::runsNode);
        s.says("link: a link of the node", TableSentences::runsLink);
        s.says("Returns the number of runs.", TableSentences::runsAnswer);
        s.says("Throws IndexOutOfBoundsException if there is no such node or link", TableSentences::runsRefused);
        s.says("Throws IllegalArgumentException if the link is not one of the node", TableSentences::runsForeign);
    }

    private static void runEnd(Sentences s) {
        s.promise(21);
        s.says("Returns an end of a run of a link at a node.", TableSentences::endsOfARun);
        s.says("v: a node", TableSentences::runEndNode);
        s.says("link: a link of the node", TableSentences::runEndLink);
        s.says("run: index of the run, in ascending order of the labels at which the runs begin",
                TableSentences::runsInOrder);
        s.says("(a run of all labels begins at the lowest label that is not the own one)",
                TableSentences::runOfAllLabels);
        s.says("last: true for its last label, false for its first one", TableSentences::runEndLast);
        s.says("Returns that label.", TableSentences::runEndAnswer);
        s.says("Throws IndexOutOfBoundsException if there is no such node or link,", TableSentences::runEndRefused);
        s.says("the link is not one of the node,", TableSentences::runEndForeign);
        s.says("or it has no such run there", TableSentences::noSuchRun);
    }

    private static void sizes(Sentences s) {
        s.promise(22);
        s.says("Returns the size of a node's table, or that of the network.", TableSentences::tableSizes);
        s.says("v: a node, or NONE for the network", TableSentences::tableSizeRange);
        s.says("Returns that size.", TableSentences::tableSizeAnswer);
        s.says("Throws IndexOutOfBoundsException if there is no such node, and v is not NONE",
                TableSentences::tableSizeRefused);
        s.promise(23);
        s.says("Returns the compactness.", TableSentences::compactness);
        s.says("Returns the compactness; 0 if all entries are NONE.", TableSentences::compactnessOfNothing);
        s.promise(24);
        s.says("Returns the size that the best table of a node has.", TableSentences::bestSize);
        s.says("v: a node", TableSentences::bestSizeRange);
        s.says("Returns that size.", TableSentences::bestSizeAnswer);
        s.says("Throws IndexOutOfBoundsException if there is no such node", TableSentences::bestSizeRefused);
    }

    // ---- 17

    private static void bestTables() {
        IntervalRouter x = Nets.of(LINE);
        x.makeTables();
        Expect.dueText("the first node", Nets.table(x, 0), ".000");
        Expect.dueText("the second node", Nets.table(x, 1), "0.11");
        Expect.dueText("the third node", Nets.table(x, 2), "11.2");
        Expect.dueText("the last node", Nets.table(x, 3), "222.");
        x.setRange(0, -1, 0, 3);
        x.setRange(1, 0, 0, 3);
        x.makeTables();
        Expect.dueText("nothing is left of what was set by hand", Nets.table(x, 0), ".000");
        Expect.dueText("nothing is left of what was set by hand", Nets.table(x, 1), "0.11");
        x.turn(1);
        x.makeTables();
        Expect.dueText("with other labels", Nets.table(x, 1), "10.1");
        IntervalRouter one = Nets.of("1");
        one.makeTables();
        Expect.dueText("a single node", Nets.table(one, 0), ".");
    }

    private static void makeTablesUndone() {
        Twins.undone(LINE, x -> x.setRange(1, 0, 2, 3), IntervalRouter::makeTables);
        Twins.undone(LINE, IntervalRouter::makeTables, IntervalRouter::makeTables);
        Twins.undone("0", x -> { }, IntervalRouter::makeTables);
    }

    private static void makeTablesAnswer() {
        Expect.due("without nodes", Nets.of("0").makeTables(), 0);
        Expect.due("a single node", Nets.of("1").makeTables(), 0);
        Expect.due("two nodes apart", Nets.of("2").makeTables(), 0);
        Expect.due("two nodes", Nets.of("2;011").makeTables(), 2);
        Expect.due("a line", Nets.of(LINE).makeTables(), 6);
        Expect.due("a star", Nets.of(STAR).makeTables(), 12);
        // the middle of 1 - 3 - 0 - 2 - 4 has 4 runs, 2 and 3 have 2 each
        IntervalRouter x = Nets.of("5;131;301;021;241");
        Expect.due("with two runs a link", x.makeTables(), 10);
        Expect.due("tableSize(NONE)", x.tableSize(-1), 10);
        // node 0 has two runs, 1 and 2 have one each (over their own labels)
        Expect.due("six nodes apart", Nets.of("9;011;021").makeTables(), 4);
    }

    // ---- 18

    private static void setsAnInterval() {
        IntervalRouter x = Nets.of(STAR);
        x.setRange(2, 4, 3, 5);
        Expect.dueText("from 3 to 5", Nets.table(x, 2), "...444.");
        x.setRange(2, 1, 5, 0);
        Expect.dueText("from 5 over the end to 0", Nets.table(x, 2), "1..4411");
        x.setRange(2, -1, 6, 6);
        Expect.dueText("6 alone", Nets.table(x, 2), "1..441.");
        x.setRange(2, 0, 4, 3);
        Expect.dueText("all around", Nets.table(x, 2), "00.0000");
        Expect.dueText("no other node", Nets.table(x, 3), ".......");
    }

    private static void ownLabelExcepted() {
        IntervalRouter x = Nets.of(STAR);
        Expect.due("the own label alone", x.setRange(2, 0, 2, 2), 0);
        Expect.dueText("the own label alone", Nets.table(x, 2), ".......");
        Expect.due("in the middle", x.setRange(2, 0, 1, 3), 2);
        Expect.dueText("in the middle", Nets.table(x, 2), ".0.0...");
        Expect.due("at the beginning", x.setRange(2, 1, 2, 3), 1);
        Expect.due("at the end", x.setRange(2, 1, 1, 2), 1);
        Expect.dueText("at both", Nets.table(x, 2), ".1.1...");
        IntervalRouter one = Nets.of("1");
        Expect.due("a single node", one.setRange(0, -1, 0, 0), 0);
    }

    private static void setRangeUndone() {
        Twins.undone(LINE, IntervalRouter::makeTables, x -> x.setRange(1, 0, 2, 3));
        Twins.undone(LINE, IntervalRouter::makeTables, x -> x.setRange(1, 1, 2, 3));
        Twins.undone(LINE, IntervalRouter::makeTables, x -> x.setRange(1, -1, 1, 1));
    }

    private static void setRangeNode() {
        Limits.hold("9", 0, 8, INDEX, (x, v) -> x.setRange(v, -1, 0, 8));
        IntervalRouter x = Nets.of(LINE);
        x.setRange(3, 2, 0, 3);
        Expect.dueText("the last node", Nets.table(x, 3), "222.");
        Expect.dueText("not the one before", Nets.table(x, 2), "....");
    }

    private static void setRangeLink() {
        IntervalRouter x = Nets.full();
        Expect.due("the first link", x.setRange(0, 0, 1, 1), 1);
        Expect.due("the last link, told first", x.setRange(3, 15, 1, 1), 1);
        Expect.due("the last link, told second", x.setRange(4, 15, 1, 1), 1);
        Expect.due("NONE", x.setRange(3, -1, 1, 1), 1);
        Expect.due("the entry", x.entry(4, 1), 15);
        Expect.due("the entry", x.entry(3, 1), -1);
        Expect.due("NONE at a node without links", Nets.of("2").setRange(0, -1, 1, 1), 0);
    }

    private static void setRangeFrom() {
        Limits.hold("9;011", 0, 8, INDEX, (x, from) -> x.setRange(0, 0, from, 4));
    }

    private static void setRangeTo() {
        Limits.hold("9;011", 0, 8, INDEX, (x, to) -> x.setRange(0, 0, 4, to));
    }

    private static void setRangeAnswer() {
        IntervalRouter x = Nets.of(STAR);
        Expect.due("all are new", x.setRange(2, 0, 0, 6), 6);
        Expect.due("none is new", x.setRange(2, 0, 0, 6), 0);
        Expect.due("another link", x.setRange(2, 1, 3, 4), 2);
        Expect.due("two of four are new", x.setRange(2, 1, 3, 6), 2);
        Expect.due("to NONE", x.setRange(2, -1, 6, 1), 3);
        Expect.due("NONE to NONE", x.setRange(2, -1, 6, 1), 0);
        Expect.due("NONE to NONE, and three more", x.setRange(2, -1, 0, 6), 3);
    }

    private static void setRangeOutOfBounds() {
        Limits.refused(LINE, 0, 3, INDEX, (x, v) -> x.setRange(v, -1, 0, 3));
        Limits.refused(LINE, 0, 3, INDEX, (x, v) -> x.setRange(v, 0, 0, 3));
        Limits.refused(LINE, -1, 2, INDEX, (x, link) -> x.setRange(1, link, 0, 3));
        Limits.refused("4", -1, -1, INDEX, (x, link) -> x.setRange(1, link, 0, 3));
        Limits.refused(LINE, 0, 3, INDEX, (x, from) -> x.setRange(1, 1, from, 0));
        Limits.refused(LINE, 0, 3, INDEX, (x, to) -> x.setRange(1, 1, 0, to));
        Limits.refused(LINE, 0, 3, INDEX, (x, both) -> x.setRange(1, -1, both, both));
        Limits.refused("0", 0, -1, INDEX, (x, all) -> x.setRange(all, -1, all, all));
    }

    private static void setRangeForeign() {
        IntervalRouter x = Nets.of(LINE);
        x.makeTables();
        Expect.refused("link 1 at node 0", x, ARGUMENT, () -> x.setRange(0, 1, 0, 3));
        Expect.refused("link 2 at node 0", x, ARGUMENT, () -> x.setRange(0, 2, 1, 1));
        Expect.refused("link 0 at node 2", x, ARGUMENT, () -> x.setRange(2, 0, 1, 1));
        Expect.refused("link 0 at node 3", x, ARGUMENT, () -> x.setRange(3, 0, 1, 1));
        Expect.refused("for the own label, too", x, ARGUMENT, () -> x.setRange(3, 0, 3, 3));
    }

    // ---- 19

    private static void entryOfALabel() {
        IntervalRouter x = Nets.of(LINE);
        x.turn(1);
        x.makeTables();
        // the labels 1 2 3 0 belong to the nodes 0 1 2 3
        Expect.due("for label 1, node 0", x.entry(1, 1), 0);
        Expect.due("for label 0, node 3", x.entry(1, 0), 1);
        Expect.due("for label 3, node 2", x.entry(1, 3), 1);
        Expect.due("for its own label", x.entry(1, 2), -1);
    }

    private static void entryNode() {
        Limits.hold("9", 0, 8, INDEX, (x, v) -> x.entry(v, 0));
    }

    private static void entryLabel() {
        Limits.hold("9", 0, 8, INDEX, (x, label) -> x.entry(0, label));
    }

    private static void entryAnswer() {
        IntervalRouter x = Nets.full();
        Expect.due("NONE", x.entry(3, 6), -1);
        x.setRange(3, 15, 6, 6);
        Expect.due("the last link", x.entry(3, 6), 15);
        x.setRange(6, 5, 0, 0);
        Expect.due("the last node", x.entry(6, 0), 5);
        x.setRange(0, 0, 6, 6);
        Expect.due("the first link", x.entry(0, 6), 0);
    }

    private static void entryRefused() {
        Limits.refused(LINE, 0, 3, INDEX, (x, v) -> x.entry(v, 3));
        Limits.refused(LINE, 0, 3, INDEX, (x, label) -> x.entry(3, label));
        Limits.refused("0", 0, -1, INDEX, (x, both) -> x.entry(both, both));
    }

    // ---- 20

    private static void runsOfALink() {
        IntervalRouter x = Nets.of(STAR);
        x.setRange(2, 3, 0, 0);
        x.setRange(2, 3, 3, 4);
        x.setRange(2, 1, 5, 5);
        Expect.due("0, and 3 to 4", x.runs(2, 3), 2);
        Expect.due("5", x.runs(2, 1), 1);
        x.setRange(2, 3, 6, 6);
        Expect.due("6 to 0, and 3 to 4", x.runs(2, 3), 2);
        x.setRange(2, 3, 1, 1);
        Expect.due("6 to 4 without the own label", x.runs(2, 3), 1);
    }

    private static void runsNode() {
        Limits.hold("2;011", 0, 1, INDEX, (x, v) -> x.runs(v, 0));
        Limits.taken("9;871", 7, 8, (x, v) -> x.runs(v, 0));
    }

    private static void runsLink() {
        Limits.hold(STAR, 0, 5, INDEX, (x, link) -> x.runs(2, link));
    }

    private static void runsAnswer() {
        IntervalRouter x = Nets.of("9;011;021");
        Expect.due("none", x.runs(0, 0), 0);
        for (int label = 1; label <= 7; label += 2) {
            x.setRange(0, 0, label, label);
        }
        Expect.due("the most: 1, 3, 5 and 7", x.runs(0, 0), 4);
        x.setRange(0, 0, 8, 8);
        Expect.due("7, 8 and 1 together", x.runs(0, 0), 3);
        x.setRange(0, 0, 0, 8);
        Expect.due("all", x.runs(0, 0), 1);
    }

    private static void runsRefused() {
        Limits.refused(LINE, 0, 3, INDEX, (x, v) -> x.runs(v, 0));
        Limits.refused(LINE, 0, 2, INDEX, (x, link) -> x.runs(1, link));
        Limits.refused("2", 0, -1, INDEX, (x, link) -> x.runs(0, link));
        Limits.refused("0", 0, -1, INDEX, (x, both) -> x.runs(both, both));
    }

    private static void runsForeign() {
        IntervalRouter x = Nets.of(LINE);
        x.makeTables();
        Expect.refused("link 1 at node 0", x, ARGUMENT, () -> x.runs(0, 1));
        Expect.refused("link 0 at node 2", x, ARGUMENT, () -> x.runs(2, 0));
        Expect.refused("link 0 at node 3", x, ARGUMENT, () -> x.runs(3, 0));
    }

    // ---- 21

    private static void endsOfARun() {
        IntervalRouter x = Nets.of(STAR);
        x.setRange(2, 3, 3, 5);
        Expect.due("first", x.runEnd(2, 3, 0, false), 3);
        Expect.due("last", x.runEnd(2, 3, 0, true), 5);
        x.setRange(2, 3, 5, 0);
        Expect.due("first", x.runEnd(2, 3, 0, false), 3);
        Expect.due("last, over the end", x.runEnd(2, 3, 0, true), 0);
        x.setRange(2, 3, 1, 1);
        x.setRange(2, -1, 4, 4);
        Expect.due("first", x.runEnd(2, 3, 0, false), 5);
        Expect.due("last, over the end and the own label", x.runEnd(2, 3, 0, true), 3);
    }

    private static void runEndNode() {
        IntervalRouter x = Nets.of(LINE);
        x.makeTables();
        Expect.due("the first node", x.runEnd(0, 0, 0, false), 1);
        Expect.due("the last node", x.runEnd(3, 2, 0, true), 2);
        Expect.refused("behind the last node", x, INDEX, () -> x.runEnd(4, 2, 0, true));
    }

    private static void runEndLink() {
        IntervalRouter x = Nets.of(STAR);
        x.makeTables();
        for (int link = 0; link < 6; link++) {
            int label = link < 2 ? link : link + 1;
            Expect.due("first of link " + link, x.runEnd(2, link, 0, false), label);
            Expect.due("last of link " + link, x.runEnd(2, link, 0, true), label);
        }
    }

    private static void runsInOrder() {
        // own label 2; 0 0 . 1 0 1 0: the run from 6 to 0 begins behind the others
        IntervalRouter x = Nets.of(STAR);
        x.setRange(2, 0, 0, 6);
        x.setRange(2, 1, 3, 3);
        x.setRange(2, 1, 5, 5);
        Expect.dueText("the table", Nets.table(x, 2), "00.1010");
        Expect.due("run 0 begins", x.runEnd(2, 0, 0, false), 4);
        Expect.due("run 0 ends", x.runEnd(2, 0, 0, true), 4);
        Expect.due("run 1 begins", x.runEnd(2, 0, 1, false), 6);
        Expect.due("run 1 ends", x.runEnd(2, 0, 1, true), 1);
        Expect.due("run 0 of the other link", x.runEnd(2, 1, 0, false), 3);
        Expect.due("run 1 of the other link", x.runEnd(2, 1, 1, false), 5);
        // a run that begins at label 0 is the first one
        x.setRange(2, 1, 6, 6);
        Expect.due("run 0 begins", x.runEnd(2, 0, 0, false), 0);
        Expect.due("run 1 begins", x.runEnd(2, 0, 1, false), 4);
        Expect.due("run 1 of the other link ends", x.runEnd(2, 1, 1, true), 6);
    }

    private static void runOfAllLabels() {
        for (int own = 0; own < 7; own++) {
            IntervalRouter x = Nets.of(STAR);
            x.swapLabels(2, own);
            x.setRange(2, 4, 3, 2);
            Expect.due("first, own label " + own, x.runEnd(2, 4, 0, false), own == 0 ? 1 : 0);
            Expect.due("last, own label " + own, x.runEnd(2, 4, 0, true), own == 6 ? 5 : 6);
            Expect.index("one run alone", () -> x.runEnd(2, 4, 1, false));
        }
        IntervalRouter two = Nets.of("2;011");
        two.makeTables();
        Expect.due("one label, first", two.runEnd(0, 0, 0, false), 1);
        Expect.due("one label, last", two.runEnd(0, 0, 0, true), 1);
        Expect.due("one label, first", two.runEnd(1, 0, 0, false), 0);
        Expect.due("one label, last", two.runEnd(1, 0, 0, true), 0);
    }

    private static void runEndLast() {
        IntervalRouter x = Nets.of(STAR);
        x.setRange(2, 5, 4, 6);
        Expect.due("true", x.runEnd(2, 5, 0, true), 6);
        Expect.due("false", x.runEnd(2, 5, 0, false), 4);
    }

    private static void runEndAnswer() {
        IntervalRouter x = Nets.of(STAR);
        x.turn(1);
        // own label 3
        x.setRange(2, 5, 2, 4);
        Expect.due("a label, not a place without the own one", x.runEnd(2, 5, 0, true), 4);
        x.setRange(2, -1, 0, 6);
        x.setRange(2, 5, 4, 6);
        Expect.due("behind the own label", x.runEnd(2, 5, 0, false), 4);
        Expect.due("behind the own label", x.runEnd(2, 5, 0, true), 6);
    }

    private static void runEndRefused() {
        IntervalRouter x = Nets.of(LINE);
        x.makeTables();
        for (int v : new int[] {-1, 4, Integer.MIN_VALUE, Integer.MAX_VALUE}) {
            Expect.refused("node " + v, x, INDEX, () -> x.runEnd(v, 0, 0, false));
        }
        for (int link : new int[] {-2, -1, 3, 16, Integer.MIN_VALUE, Integer.MAX_VALUE}) {
            Expect.refused("link " + link, x, INDEX, () -> x.runEnd(1, link, 0, false));
        }
        // the entries of node 1 in between are NONE, but NONE is no link with a run
        x.setRange(1, -1, 0, 3);
        Expect.refused("NONE", x, INDEX, () -> x.runEnd(1, -1, 0, false));
        Limits.refused("2", 0, -1, INDEX, (y, link) -> y.runEnd(0, link, 0, false));
        Limits.refused("0", 0, -1, INDEX, (y, both) -> y.runEnd(both, both, 0, false));
    }

    private static void runEndForeign() {
        IntervalRouter x = Nets.of(LINE);
        x.makeTables();
        Expect.refused("link 1 at node 0", x, INDEX, () -> x.runEnd(0, 1, 0, false));
        Expect.refused("link 0 at node 2", x, INDEX, () -> x.runEnd(2, 0, 0, false));
        Expect.refused("link 0 at node 3", x, INDEX, () -> x.runEnd(3, 0, 0, true));
    }

    private static void noSuchRun() {
        IntervalRouter x = Nets.of(STAR);
        Expect.refused("no run", x, INDEX, () -> x.runEnd(2, 0, 0, false));
        x.setRange(2, 0, 0, 0);
        x.setRange(2, 0, 4, 4);
        for (int run : new int[] {-1, 2, Integer.MIN_VALUE, Integer.MAX_VALUE}) {
            Expect.refused("run " + run, x, INDEX, () -> x.runEnd(2, 0, run, false));
            Expect.refused("run " + run, x, INDEX, () -> x.runEnd(2, 0, run, true));
        }
        Expect.due("run 0", x.runEnd(2, 0, 0, true), 0);
        Expect.due("run 1", x.runEnd(2, 0, 1, true), 4);
        Expect.refused("another link", x, INDEX, () -> x.runEnd(2, 1, 0, true));
    }

    // ---- 22 to 24

    private static void tableSizes() {
        IntervalRouter x = Nets.of(LINE);
        x.makeTables();
        Expect.due("an end", x.tableSize(0), 1);
        Expect.due("the middle", x.tableSize(1), 2);
        Expect.due("the network", x.tableSize(-1), 6);
        x.setRange(1, -1, 3, 3);
        Expect.due("without an entry of a run", x.tableSize(1), 2);
        x.setRange(1, 0, 3, 3);
        Expect.due("0 . 1 0", x.tableSize(1), 2);
        x.setRange(1, 1, 0, 2);
        Expect.due("1 . 1 0", x.tableSize(1), 2);
        x.setRange(1, 0, 0, 3);
        Expect.due("0 . 0 0", x.tableSize(1), 1);
    }

    private static void tableSizeRange() {
        Limits.hold("9", -1, 8, INDEX, (x, v) -> x.tableSize(v));
        Limits.hold("0", -1, -1, INDEX, (x, v) -> x.tableSize(v));
    }

    private static void tableSizeAnswer() {
        Expect.due("without nodes", new IntervalRouter().tableSize(-1), 0);
        Expect.due("a single node", Nets.of("1").tableSize(0), 0);
        Expect.due("a single node", Nets.of("1").tableSize(-1), 0);
        IntervalRouter x = Nets.of("9;011;021");
        for (int label = 1; label <= 8; label++) {
            x.setRange(0, label % 2, label, label);
        }
        Expect.due("the most: 8 runs", x.tableSize(0), 8);
        Expect.due("the network", x.tableSize(-1), 8);
    }

    private static void tableSizeRefused() {
        Limits.refused(LINE, -1, 3, INDEX, (x, v) -> x.tableSize(v));
        Limits.refused("0", -1, -1, INDEX, (x, v) -> x.tableSize(v));
    }

    private static void compactness() {
        IntervalRouter x = Nets.of("9;011;021");
        for (int label = 1; label <= 7; label += 2) {
            x.setRange(0, 0, label, label);
            Expect.due("runs", x.compactness(), (label + 1) / 2);
        }
        x.setRange(0, 0, 8, 8);
        Expect.due("two have become one", x.compactness(), 3);
        x.setRange(0, 0, 0, 8);
        Expect.due("all", x.compactness(), 1);
        x.setRange(0, 1, 2, 2);
        Expect.due("one of each link", x.compactness(), 1);
    }

    private static void compactnessOfNothing() {
        Expect.due("without nodes", new IntervalRouter().compactness(), 0);
        Expect.due("a single node", Nets.of("1").compactness(), 0);
        IntervalRouter x = Nets.of(LINE);
        Expect.due("before makeTables()", x.compactness(), 0);
        x.makeTables();
        Expect.due("behind makeTables()", x.compactness(), 1);
        x.turn(0);
        Expect.due("behind turn()", x.compactness(), 0);
        IntervalRouter apart = Nets.of("5");
        apart.makeTables();
        Expect.due("best tables without links", apart.compactness(), 0);
    }

    private static void bestSize() {
        IntervalRouter x = Nets.of("5;131;301;021;241");
        Expect.due("the middle", x.bestSize(0), 4);
        Expect.due("next to it", x.bestSize(3), 2);
        Expect.due("an end", x.bestSize(4), 1);
        x.setRange(0, 1, 1, 4);
        Expect.due("not that of the table that it has", x.bestSize(0), 4);
        Expect.due("which stays", x.tableSize(0), 1);
        x.setLabels(3, 0);
        Expect.due("with the best labels", x.bestSize(0), 2);
    }

    private static void bestSizeRange() {
        Limits.hold("9;011", 0, 8, INDEX, (x, v) -> x.bestSize(v));
    }

    private static void bestSizeAnswer() {
        Expect.due("a single node", Nets.of("1").bestSize(0), 0);
        Expect.due("a node alone", Nets.of("3;011").bestSize(2), 0);
        Expect.due("one way for all", Nets.of(STAR).bestSize(0), 1);
        Expect.due("six ways", Nets.of(STAR).bestSize(2), 6);
        // node 0 reaches 1, 3, 5, 7 over link 0, and not 2, 4, 6, 8; 7 and 1 are not next to each other
        Expect.due("parted by NONE", Nets.of("9;011;131;351;571").bestSize(0), 4);
    }

    private static void bestSizeRefused() {
        Limits.refused(LINE, 0, 3, INDEX, (x, v) -> x.bestSize(v));
        Limits.refused("0", 0, -1, INDEX, (x, v) -> x.bestSize(v));
    }
}
