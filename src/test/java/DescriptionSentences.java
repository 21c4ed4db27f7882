/** What the document says before the promises, but for the labels, tables and letters (see DescribedTables). */
final class DescriptionSentences {
    private static final Class<IndexOutOfBoundsException> INDEX = IndexOutOfBoundsException.class;
    private static final Class<IllegalArgumentException> ARGUMENT = IllegalArgumentException.class;
    private static final Class<IllegalStateException> STATE = IllegalStateException.class;

    private DescriptionSentences() {
    }

    static void tell(Sentences s) {
        s.promise(Sentences.DESCRIPTION);
        s.leads("A workbench for routing by intervals of names: the nodes of a network have labels on a circle, each "
                + "node keeps, for each of its links, the labels of the nodes to which letters are sent over it, and "
                + "these sets should be few cyclic intervals; labelings, tables with the fewest intervals, tables "
                + "changed by hand, checks, letters on their ways, the best labeling by search, and networks that are "
                + "read from a text.");
        s.says("An object is used for at most 512 calls after it has been made; what later calls answer is free.",
                DescriptionSentences::all512Calls);
        network(s);
        changes(s);
        text(s);
        undo(s);
        exceptions(s);
        s.leads("The constants:");
        s.says("NONE = -1: There is no such thing.", DescriptionSentences::none);
        s.leads("The constructor and the methods follow, a promise each: the signature, then what it does.");
    }

    private static void network(Sentences s) {
        s.says("Network. There are n nodes, 0 to 9, initially 0, numbered from 0,", DescriptionSentences::nodes);
        s.says("and at most 16 links, numbered from 0 in the order in which they were added.",
                DescriptionSentences::links);
        s.says("A link joins two different nodes,", DescriptionSentences::differentNodes);
        s.says("which no other link joins,", DescriptionSentences::noOtherLink);
        s.says("and has a length, 1 to 9.", DescriptionSentences::lengths);
        s.says("The distance of two nodes is the smallest sum of lengths of a way between them;",
                DescriptionSentences::smallestSum);
        s.says("there is none if no way joins them.", DescriptionSentences::noDistance);
        s.says("The links of a node are the links that join it to other nodes.", DescriptionSentences::linksOfANode);
    }

    private static void changes(Sentences s) {
        s.says("Changes. Each successful call of begin(), addLink(), removeLink(), setLength() and parse() makes all "
                + "entries NONE;", DescriptionSentences::networkChangesEmptyTables);
        s.says("each successful call that changes the labels (setLabels() and shuffle(), swapLabels(), turn()) makes "
                + "all entries NONE, too,", DescriptionSentences::labelChangesEmptyTables);
        s.says("even if the labels stay the same.", DescriptionSentences::sameLabelsEmptyTables);
    }

    private static void text(Sentences s) {
        s.says("Network text. The text has at most 100 bytes:", DescriptionSentences::hundredBytes);
        s.says("the number of nodes (one digit),", DescriptionSentences::oneDigit);
        s.says("then any number of links, each a semicolon, two node digits and a length digit.",
                DescriptionSentences::anyNumberOfLinks);
        s.says("There are no spaces.", DescriptionSentences::noSpaces);
        s.says("The syntax error position is the index of the first byte that cannot stand where it stands",
                DescriptionSentences::firstWrongByte);
        s.says("(a node that does not exist,", DescriptionSentences::noSuchNodeInText);
        s.says("a second node that is equal to the first one", DescriptionSentences::equalNodesInText);
        s.says("or joined to it already,", DescriptionSentences::joinedNodesInText);
        s.says("a length 0,", DescriptionSentences::lengthZeroInText);
        s.says("the first node digit of a 17th link, too;", DescriptionSentences::seventeenthLinkInText);
        s.says("a semicolon and the first node of a link can stand also where no link is possible any more),",
                DescriptionSentences::noLinkPossibleInText);
        s.says("or the length of the text if the text ends too early.", DescriptionSentences::textEndsTooEarly);
    }

    private static void undo(Sentences s) {
        s.says("Undo. Each successful call of a method whose description says \"undoable\" saves the state from before "
                + "the call,", DescriptionSentences::undoableCallsSave);
        s.says("even if the call changes nothing;", DescriptionSentences::idleCallsSave);
        s.says("at most 4 states are saved,", DescriptionSentences::fourStates);
        s.says("and the oldest is dropped first.", DescriptionSentences::oldestDropped);
        s.says("The saved state contains everything", DescriptionSentences::everythingSaved);
        s.says("except the network text.", DescriptionSentences::textNotSaved);
    }

    private static void exceptions(Sentences s) {
        s.says("Exceptions. A call that throws an exception changes nothing.", DescriptionSentences::refusedCalls);
        s.says("If several exceptions apply, the one that is listed first is thrown.",
                DescriptionSentences::severalExceptions);
    }

    private static void all512Calls() {
        IntervalRouter x = new IntervalRouter();
        Expect.due("call 1", x.begin(9), 0);
        for (int call = 2; call <= 508; call++) {
            Expect.due("call " + call, x.turn(1), (call - 1) % 9);
        }
        // 507 turns are 56 times around and 3 more
        Expect.due("call 509", x.undo(), 3);
        Expect.due("call 510", x.label(0), 2);
        Expect.due("call 511", x.undo(), 2);
        Expect.due("call 512", x.label(0), 1);
    }

    private static void none() {
        Expect.due("NONE", IntervalRouter.NONE, -1);
    }

    // ---- network

    private static void nodes() {
        IntervalRouter x = new IntervalRouter();
        Expect.due("initially", x.size(false), 0);
        Expect.index("node 0, initially", () -> x.label(0));
        for (int n = 0; n <= 9; n++) {
            x.begin(n);
            int highest = n - 1;
            Expect.due("nodes", x.size(false), n);
            for (int v = 0; v < n; v++) {
                Expect.due("node " + v, x.distance(v, v), 0);
            }
            Expect.index("node " + n, () -> x.distance(highest + 1, highest + 1));
            Expect.index("node -1", () -> x.distance(-1, -1));
        }
        Expect.argument("10 nodes", () -> x.begin(10));
    }

    private static void links() {
        IntervalRouter x = new IntervalRouter();
        x.begin(9);
        Expect.due("initially", x.size(true), 0);
        int[][] ends = {
            {8, 7}, {7, 6}, {6, 5}, {5, 4}, {4, 3}, {3, 2}, {2, 1}, {1, 0},
            {0, 2}, {1, 3}, {2, 4}, {3, 5}, {4, 6}, {5, 7}, {6, 8}, {7, 0},
        };
        for (int i = 0; i < 16; i++) {
            Expect.due("the number", x.addLink(ends[i][0], ends[i][1], 1 + i % 9), i);
        }
        for (int i = 0; i < 16; i++) {
            Expect.due("first node of link " + i, x.link(i, 0), ends[i][0]);
            Expect.due("second node of link " + i, x.link(i, 1), ends[i][1]);
            Expect.due("length of link " + i, x.link(i, 2), 1 + i % 9);
        }
        Expect.state("link 16", () -> x.addLink(0, 8, 1));
        Expect.due("links", x.size(true), 16);
        Expect.index("link 16", () -> x.link(16, 0));
    }

    private static void differentNodes() {
        IntervalRouter x = Nets.of("9");
        for (int v = 0; v < 9; v++) {
            int node = v;
            Expect.refused("node " + v, x, ARGUMENT, () -> x.addLink(node, node, 1));
        }
    }

    private static void noOtherLink() {
        IntervalRouter x = Nets.of("4;235;011");
        Expect.refused("the first link again", x, ARGUMENT, () -> x.addLink(2, 3, 5));
        Expect.refused("the first link the other way", x, ARGUMENT, () -> x.addLink(3, 2, 1));
        Expect.refused("the last link again", x, ARGUMENT, () -> x.addLink(0, 1, 2));
        Expect.due("a link that shares one node", x.addLink(3, 1, 1), 2);
        x.removeLink(0);
        Expect.due("joined no more", x.addLink(3, 2, 1), 2);
    }

    private static void lengths() {
        Limits.hold("2", 1, 9, ARGUMENT, (x, length) -> x.addLink(0, 1, length));
        Limits.hold("2;015", 1, 9, ARGUMENT, (x, length) -> x.setLength(0, length));
    }

    private static void smallestSum() {
        // 0 - 1 costs 9 at once, 8 over 2, and 7 over 3 and 4
        IntervalRouter x = Nets.of("5;019;024;214;032;342;413");
        Expect.due("three links", x.distance(0, 1), 7);
        Expect.due("the other way", x.distance(1, 0), 7);
        x.setLength(5, 4);
        Expect.due("two ways of 8", x.distance(0, 1), 8);
        x.setLength(5, 5);
        Expect.due("two links", x.distance(0, 1), 8);
        x.setLength(1, 5);
        Expect.due("9 at once and 9 over others", x.distance(0, 1), 9);
        x.setLength(1, 6);
        x.setLength(5, 6);
        Expect.due("at once", x.distance(0, 1), 9);
    }

    private static void noDistance() {
        IntervalRouter x = Nets.of("4;011;231");
        Expect.due("other part", x.distance(1, 2), -1);
        Expect.due("the other way", x.distance(2, 1), -1);
        x.addLink(3, 0, 9);
        Expect.due("joined", x.distance(1, 2), 11);
        x.removeLink(2);
        Expect.due("parted again", x.distance(1, 2), -1);
    }

    private static void linksOfANode() {
        IntervalRouter x = Nets.of("3;011;201");
        Expect.due("told first", x.runs(0, 0), 0);
        Expect.due("told second", x.runs(1, 0), 0);
        Expect.due("told second", x.runs(0, 1), 0);
        Expect.argument("a link of others", () -> x.runs(2, 0));
        Expect.argument("a link of others", () -> x.runs(1, 1));
    }

    // ---- changes

    private static void emptied(String what, Twins.Calls call) {
        IntervalRouter x = Nets.of("4;011;121;231");
        x.makeTables();
        Expect.yes("entries before " + what, !Nets.allNone(x));
        call.make(x);
        Expect.yes("all entries are NONE behind " + what, Nets.allNone(x));
        Expect.due("tableSize(NONE) behind " + what, x.tableSize(-1), 0);
    }

    private static void networkChangesEmptyTables() {
        emptied("begin(4)", x -> x.begin(4));
        emptied("begin(2)", x -> x.begin(2));
        emptied("begin(9)", x -> x.begin(9));
        emptied("addLink()", x -> x.addLink(3, 0, 9));
        emptied("removeLink()", x -> x.removeLink(2));
        emptied("setLength()", x -> x.setLength(2, 9));
        emptied("setLength(), the same", x -> x.setLength(2, 1));
        emptied("parse()", IntervalRouter::parse);
        IntervalRouter x = Nets.of("4;011;121;231");
        x.makeTables();
        x.append(';');
        x.parse();
        Expect.due("tableSize(NONE) behind a parse() with an error", x.tableSize(-1), 6);
    }

    private static void labelChangesEmptyTables() {
        emptied("setLabels(1, 3)", x -> x.setLabels(1, 3));
        emptied("setLabels(2, 2)", x -> x.setLabels(2, 2));
        emptied("shuffle(0)", x -> x.shuffle(0));
        emptied("swapLabels(0, 3)", x -> x.swapLabels(0, 3));
        emptied("turn(3)", x -> x.turn(3));
    }

    private static void sameLabels(String what, Twins.Calls call) {
        emptied(what, x -> {
            String before = Nets.labels(x);
            call.make(x);
            Expect.dueText("the labels behind " + what, Nets.labels(x), before);
        });
    }

    private static void sameLabelsEmptyTables() {
        sameLabels("setLabels(0, 0)", x -> x.setLabels(0, 0));
        sameLabels("setLabels(1, 0)", x -> x.setLabels(1, 0));
        sameLabels("setLabels(2, 0)", x -> x.setLabels(2, 0));
        sameLabels("setLabels(3, 0)", x -> x.setLabels(3, 0));
        sameLabels("swapLabels(2, 2)", x -> x.swapLabels(2, 2));
        sameLabels("turn(0)", x -> x.turn(0));
        sameLabels("turn(4)", x -> x.turn(4));
        IntervalRouter x = Nets.of("4;011;121;231");
        x.shuffle(5);
        String before = Nets.labels(x);
        x.makeTables();
        x.shuffle(5);
        Expect.dueText("the labels behind shuffle(5), twice", Nets.labels(x), before);
        Expect.yes("all entries are NONE behind shuffle(5), twice", Nets.allNone(x));
    }

    // ---- network text

    /** What parse() answers; an error must leave all as it was. */
    private static int parsed(String text) {
        IntervalRouter x = Nets.of("3;012");
        x.makeTables();
        Nets.write(x, text);
        long before = x.digest();
        int answer = x.parse();
        if (answer < 0) {
            Expect.due("digest() behind an error in " + text, x.digest(), before);
        }
        return answer;
    }

    private static void error(String text, int position) {
        Expect.due("parse() of " + text, parsed(text), -10 - position);
    }

    private static void fine(String text, int links) {
        Expect.due("parse() of " + text, parsed(text), links);
    }

    private static void hundredBytes() {
        IntervalRouter x = new IntervalRouter();
        for (int i = 1; i <= 100; i++) {
            Expect.due("length", x.append('7'), i);
        }
        Expect.refused("byte 101", x, STATE, () -> x.append('7'));
        Expect.due("the error stands where it stood", x.parse(), -11);
        Expect.due("length", x.clearText(), 100);
    }

    private static void oneDigit() {
        for (int n = 0; n <= 9; n++) {
            IntervalRouter x = Nets.of(Integer.toString(n));
            Expect.due("nodes", x.size(false), n);
        }
        error("/", 0);
        error(":", 0);
        error("-1", 0);
        error("09", 1);
        error("10", 1);
    }

    private static void anyNumberOfLinks() {
        fine("4", 0);
        fine("4;011", 1);
        fine("4;011;232", 2);
        fine("4;011;232;129;031;021;135", 6);
        IntervalRouter x = Nets.of("4;319");
        Expect.due("first node", x.link(0, 0), 3);
        Expect.due("second node", x.link(0, 1), 1);
        Expect.due("length", x.link(0, 2), 9);
        fine(Nets.sixteen(), 16);
        error("4:011", 1);
        error("4,011", 1);
        error("4011", 1);
        error("4;0111", 5);
        error("4;011;;", 6);
    }

    private static void noSpaces() {
        error(" 4;011", 0);
        error("4 ;011", 1);
        error("4; 011", 2);
        error("4;0 11", 3);
        error("4;01 1", 4);
        error("4;011 ", 5);
        error("4;011" + (char) 9, 5);
        error("4;011" + (char) 10, 5);
        error("4;011" + (char) 0, 5);
    }

    private static void firstWrongByte() {
        error("x", 0);
        error("xx", 0);
        error("3x;x", 1);
        error("3;x00", 2);
        error("3;0x0", 3);
        error("3;01x", 4);
        error("3;011x", 5);
        error("3;011;y00", 6);
        error("3;011;0y0", 7);
        error("3;011;02y", 8);
        error("3;339;339", 2);
        error("3;019;000;", 7);
    }

    private static void noSuchNodeInText() {
        error("3;301", 2);
        error("3;201;031", 7);
        error("3;031", 3);
        error("3;901", 2);
        error("3;091", 3);
        error("0;001", 2);
        error("1;101", 2);
        error("1;011", 3);
        error("9;091", 3);
        fine("9;081", 1);
        fine("9;801", 1);
        fine("3;021", 1);
    }

    private static void equalNodesInText() {
        error("9;001", 3);
        error("9;881", 3);
        error("1;001", 3);
        error("3;011;221", 7);
    }

    private static void joinedNodesInText() {
        error("3;011;011", 7);
        error("3;011;101", 7);
        error("3;121;021;211", 11);
        fine("3;121;021;011", 3);
    }

    private static void lengthZeroInText() {
        error("2;010", 4);
        error("3;011;020", 8);
        fine("2;011", 1);
        fine("2;019", 1);
        error("2;01:", 4);
        error("2;01/", 4);
    }

    private static void seventeenthLinkInText() {
        String full = Nets.sixteen();
        error(full + ";8", 66);
        error(full + ";871", 66);
        error(full + ";870", 66);
        error(full + ";x", 66);
        fine(full.substring(0, 61), 15);
        fine(full.substring(0, 61) + ";871", 16);
        error(full.substring(0, 61) + ";871;861", 66);
    }

    private static void noLinkPossibleInText() {
        error(Nets.sixteen() + ";", 66);
        error("0;", 2);
        error("1;", 2);
        error("1;0", 3);
        error("1;0x", 3);
        error("2;011;", 6);
        error("2;011;0", 7);
        error("2;011;1", 7);
        error("2;011;1x", 7);
        error("4;011;021;031;121;131;231;0", 27);
        error("4;011;021;031;121;131;231;01", 27);
        // node 0 is joined to all others, but a link of 1 and 2 is possible
        error("3;011;021;0", 11);
        error("3;011;021;01", 11);
    }

    private static void textEndsTooEarly() {
        error("", 0);
        error("5;", 2);
        error("5;0", 3);
        error("5;01", 4);
        error("5;011;", 6);
        error("5;011;2", 7);
        error("5;011;23", 8);
        fine("5;011;231", 2);
        fine("5", 0);
    }

    // ---- undo

    private static final String LINE = "5;011;122;233;344";

    /** All calls that are undoable; each changes something in the line of five nodes with tables. */
    private static final Twins.Calls[] UNDOABLE = {
        x -> x.begin(3), x -> x.addLink(0, 4, 1), x -> x.removeLink(1), x -> x.setLength(1, 9),
        x -> x.setLabels(0, 0), x -> x.setLabels(1, 2), x -> x.setLabels(2, 4), x -> x.setLabels(3, 4),
        x -> x.swapLabels(0, 4), x -> x.turn(2), x -> x.shuffle(8), x -> x.makeTables(),
        x -> x.setRange(2, 1, 3, 0), x -> x.parse(),
    };

    private static void pastOfTheLine(IntervalRouter x) {
        x.turn(1);
        x.setRange(2, 2, 0, 4);
    }

    private static void undoableCallsSave() {
        for (Twins.Calls change : UNDOABLE) {
            Twins.undone(LINE, DescriptionSentences::pastOfTheLine, change);
        }
    }

    private static void idleCallsSave() {
        Twins.undone("0", x -> { }, x -> x.begin(0));
        Twins.undone("4", x -> { }, x -> x.begin(4));
        Twins.undone(LINE, x -> { }, x -> x.setLength(0, 1));
        Twins.undone(LINE, x -> { }, x -> x.setLabels(0, 0));
        Twins.undone(LINE, x -> { }, x -> x.setLabels(1, 0));
        Twins.undone(LINE, x -> { }, x -> x.swapLabels(3, 3));
        Twins.undone(LINE, x -> { }, x -> x.turn(0));
        Twins.undone(LINE, x -> { }, x -> x.turn(5));
        Twins.undone(LINE, x -> x.shuffle(1), x -> x.shuffle(1));
        Twins.undone("0", x -> { }, x -> x.shuffle(1));
        Twins.undone("0", x -> { }, IntervalRouter::makeTables);
        Twins.undone(LINE, IntervalRouter::makeTables, IntervalRouter::makeTables);
        Twins.undone(LINE, x -> { }, x -> x.setRange(1, -1, 0, 4));
        Twins.undone(LINE, x -> { }, x -> x.setRange(1, 0, 1, 1));
        Twins.undone(LINE, x -> { }, IntervalRouter::parse);
    }

    private static void fourStates() {
        IntervalRouter x = new IntervalRouter();
        for (int calls = 1; calls <= 6; calls++) {
            x.begin(calls);
            int saved = Math.min(calls, 4);
            // undo() and the same call again show the number and leave it
            Expect.due("saved states but one, behind " + calls + " calls", x.undo(), saved - 1);
            x.begin(calls);
        }
        for (int left = 3; left >= 0; left--) {
            Expect.due("left", x.undo(), left);
        }
        Expect.state("a fifth undo()", x::undo);
    }

    private static void oldestDropped() {
        IntervalRouter x = new IntervalRouter();
        for (int n = 1; n <= 5; n++) {
            x.begin(n);
        }
        // saved were 0, 1, 2, 3 and 4 nodes
        for (int n = 4; n >= 1; n--) {
            x.undo();
            Expect.due("nodes", x.size(false), n);
        }
        Expect.refused("0 nodes are dropped", x, STATE, x::undo);
    }

    private static void everythingSaved() {
        IntervalRouter x = Nets.of("3;015;122");
        x.swapLabels(0, 2);
        x.setRange(1, 1, 0, 2);
        x.begin(9);
        x.undo();
        Expect.due("nodes", x.size(false), 3);
        Expect.due("links", x.size(true), 2);
        Expect.due("a length", x.link(0, 2), 5);
        Expect.due("a node of a link", x.link(1, 1), 2);
        Expect.due("a distance", x.distance(0, 2), 7);
        Expect.due("good links", x.goodLinks(0, 2), 1);
        Expect.dueText("labels", Nets.labels(x), "210");
        Expect.dueText("a table", Nets.table(x, 1), "1.1");
        Expect.due("the best labelings", x.labelings(1), 6);
    }

    private static void textNotSaved() {
        IntervalRouter x = Nets.of("3;015;122");
        x.begin(2);
        x.clearText();
        x.append('4');
        x.undo();
        Expect.due("nodes", x.size(false), 3);
        Expect.due("the text is the new one", x.parse(), 0);
        Expect.due("nodes", x.size(false), 4);
        x.append(';');
        x.undo();
        Expect.due("length of the text", x.clearText(), 2);
        x.makeTables();
        x.undo();
        Expect.due("the text stays empty", x.clearText(), 0);
    }

    // ---- exceptions

    private static void threw(Expect.Call call, Class<? extends RuntimeException> want) {
        Expect.thrown("a wrong call", call, want);
    }

    /** Each exception of each method once, in a network of 7 nodes with 16 links and a full text. */
    private static void allRefusals(IntervalRouter x) {
        threw(() -> x.begin(10), ARGUMENT);
        threw(() -> x.addLink(7, 0, 1), INDEX);
        threw(() -> x.addLink(5, 6, 10), ARGUMENT);
        threw(() -> x.addLink(5, 5, 1), ARGUMENT);
        threw(() -> x.addLink(1, 0, 1), ARGUMENT);
        threw(() -> x.addLink(5, 6, 1), STATE);
        threw(() -> x.removeLink(16), INDEX);
        threw(() -> x.setLength(16, 1), INDEX);
        threw(() -> x.setLength(0, 0), ARGUMENT);
        threw(() -> x.setLabels(4, 0), ARGUMENT);
        threw(() -> x.setLabels(0, 7), INDEX);
        threw(() -> x.setLabels(3, 0), STATE);
        threw(() -> x.swapLabels(0, 7), INDEX);
        threw(() -> x.turn(10), ARGUMENT);
        threw(() -> x.shuffle(1000000), ARGUMENT);
        threw(() -> x.setRange(7, -1, 0, 6), INDEX);
        threw(() -> x.setRange(0, 16, 0, 6), INDEX);
        threw(() -> x.setRange(0, 0, 0, 7), INDEX);
        threw(() -> x.setRange(0, 15, 0, 6), ARGUMENT);
        threw(() -> x.append(128), ARGUMENT);
        threw(() -> x.append('1'), STATE);
        refusedQuestions(x);
    }

    private static void refusedQuestions(IntervalRouter x) {
        threw(() -> x.link(16, 0), INDEX);
        threw(() -> x.link(0, 3), ARGUMENT);
        threw(() -> x.distance(0, 7), INDEX);
        threw(() -> x.goodLinks(0, 7), INDEX);
        threw(() -> x.label(7), INDEX);
        threw(() -> x.nodeWith(7), INDEX);
        threw(() -> x.entry(0, 7), INDEX);
        threw(() -> x.runs(0, 16), INDEX);
        threw(() -> x.runs(0, 15), ARGUMENT);
        threw(() -> x.runEnd(0, 0, 9, true), INDEX);
        threw(() -> x.tableSize(7), INDEX);
        threw(() -> x.bestSize(7), INDEX);
        threw(() -> x.check(0, 7), INDEX);
        threw(() -> x.checked(5), ARGUMENT);
        threw(() -> x.send(0, 7), INDEX);
        threw(() -> x.wayNode(0, 7, 0), INDEX);
        threw(() -> x.wayNode(0, 1, -1), ARGUMENT);
        threw(() -> x.load(16), INDEX);
        threw(() -> x.lostWithout(16), INDEX);
        threw(x::bestCompactness, STATE);
        threw(() -> x.labelings(10), ARGUMENT);
        threw(() -> x.labelings(9), STATE);
    }

    private static void refusedCalls() {
        Twins.leaveNoTrace(Nets.SIXTEEN_OF_SEVEN, x -> {
            x.shuffle(4);
            x.makeTables();
            x.setRange(1, -1, 5, 2);
            Nets.lengthen(x, 65, 100);
        }, DescriptionSentences::allRefusals);
        Twins.leaveNoTrace("0", x -> x.begin(0), x -> threw(() -> x.turn(0), STATE));
        Twins.leaveNoTrace("0", IntervalRouter::undo, x -> threw(x::undo, STATE));
    }

    private static void severalExceptions() {
        IntervalRouter x = Nets.of(Nets.SIXTEEN_OF_SEVEN);
        Nets.lengthen(x, 65, 100);
        threw(() -> x.addLink(7, 7, 1), INDEX);
        threw(() -> x.addLink(0, 7, 0), INDEX);
        threw(() -> x.addLink(-1, 6, 1), INDEX);
        threw(() -> x.addLink(5, 5, 1), ARGUMENT);
        threw(() -> x.addLink(5, 6, 0), ARGUMENT);
        threw(() -> x.addLink(0, 1, 1), ARGUMENT);
        threw(() -> x.setLength(16, 0), INDEX);
        threw(() -> x.link(16, 3), INDEX);
        threw(() -> x.setLabels(4, 7), ARGUMENT);
        threw(() -> x.setLabels(-1, 0), ARGUMENT);
        threw(() -> x.setLabels(3, 7), INDEX);
        threw(() -> x.setRange(0, 15, 7, 0), INDEX);
        threw(() -> x.setRange(0, 15, 0, -1), INDEX);
        threw(() -> x.setRange(7, 15, 0, 0), INDEX);
        threw(() -> x.runs(7, 15), INDEX);
        threw(() -> x.wayNode(7, 0, -1), INDEX);
        threw(() -> x.wayNode(0, -1, -1), INDEX);
        threw(() -> x.labelings(10), ARGUMENT);
        threw(() -> x.labelings(-1), ARGUMENT);
        threw(() -> x.append(128), ARGUMENT);
        IntervalRouter none = new IntervalRouter();
        threw(() -> none.turn(10), ARGUMENT);
        threw(() -> none.turn(-1), ARGUMENT);
        threw(() -> none.setLabels(4, 0), ARGUMENT);
    }
}
