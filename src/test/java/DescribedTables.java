import java.util.Arrays;

/** What the document says before the promises of labels, tables, good links, letters and labelings. */
final class DescribedTables {
    /** Node 2 in the middle, its links 0 to 5 go to the nodes 0, 1, 3, 4, 5 and 6. */
    private static final String STAR = "7;201;211;231;241;251;261";

    private DescribedTables() {
    }

    static void tell(Sentences s) {
        s.promise(Sentences.DESCRIPTION);
        labels(s);
        tables(s);
        goodLinks(s);
        letters(s);
        labelings(s);
    }

    private static void labels(Sentences s) {
        s.says("Labels. Each node has a label; the labels are the numbers 0 to n - 1, each once,",
                DescribedTables::eachLabelOnce);
        s.says("initially that of the node itself.", DescribedTables::initialLabels);
        s.says("They are on a circle: behind n - 1 comes 0.", DescribedTables::circle);
        s.says("The interval from a to b (a and b labels) consists of a, the labels behind it, and so on up to b.",
                DescribedTables::interval);
    }

    private static void tables(Sentences s) {
        s.says("Tables. Each node v has, for each label, an entry: one of its links, or NONE;",
                DescribedTables::entries);
        s.says("the entry for its own label is always NONE.", DescribedTables::ownLabel);
        s.says("The entries are initially NONE.", DescribedTables::initialEntries);
        s.leads("The runs of a link at a node are counted as follows: go through the labels around the circle,");
        s.says("leaving out the own label of the node;", DescribedTables::ownLabelLeftOut);
        s.says("a run is a longest sequence of labels, one next to the other there", DescribedTables::longestSequence);
        s.says("(the last one is next to the first one),", DescribedTables::lastNextToFirst);
        s.says("whose entry is this link.", DescribedTables::thisLinkAlone);
        s.says("(If all entries have the link, there is one run.)", DescribedTables::allEntries);
        s.says("The size of a node's table is the number of runs of all its links together;",
                DescribedTables::sizeOfATable);
        s.says("the size of the network is the sum over all nodes;", DescribedTables::sizeOfTheNetwork);
        s.says("the compactness is the greatest number of runs of a link at a node.",
                DescribedTables::greatestNumberOfRuns);
    }

    private static void goodLinks(Sentences s) {
        s.says("Good links. A link of v is good for a node w other than v if it begins a shortest way from v to w:",
                DescribedTables::beginsAShortestWay);
        s.says("if its length plus the distance of its other end and w is the distance of v and w.",
                DescribedTables::lengthPlusDistance);
        s.says("The best table of a node is, of those that have for the label of each node that can be reached from v "
                + "a good link,", DescribedTables::goodLinksAlone);
        s.says("and NONE for the labels of all others,", DescribedTables::noneForTheOthers);
        s.says("one with the smallest size;", DescribedTables::smallestSize);
        s.says("of several the one whose entries, in the order of the labels from 0 on without the own one, are "
                + "lexicographically first (by link numbers; NONE comes before all links).",
                DescribedTables::lexicographicallyFirst);
    }

    private static void letters(Sentences s) {
        s.says("Letters. A letter from v to w is sent, at each node other than w, over the link of the entry for the "
                + "label of w.", DescribedTables::overTheEntryOfTheLabel);
        s.says("It arrives if it comes to w;", DescribedTables::arrivesWhenItComes);
        s.says("it stops if the entry is NONE,", DescribedTables::stopsAtNone);
        s.says("or if it has visited more than n nodes without arriving (it goes around).",
                DescribedTables::goesAround);
    }

    private static void labelings(Sentences s) {
        s.says("Labelings. The depth-first labeling from a node r: the nodes get the labels 0, 1, 2, ... in the order "
                + "in which they are first visited, by going from r along the links,", DescribedTables::firstVisits);
        s.says("at each node first over the link with the lowest number to a node that has not been visited, and so "
                + "on,", DescribedTables::lowestLinkFirst);
        s.says("and back when there is none;", DescribedTables::backWhenThereIsNone);
        s.says("nodes that are not reached get the following labels in ascending order.",
                DescribedTables::notReachedDepthFirst);
        s.says("The rank labeling from r: the nodes get the labels in ascending order of their distances from r,",
                DescribedTables::byDistance);
        s.says("equal ones by ascending node numbers,", DescribedTables::equalDistances);
        s.says("nodes that cannot be reached last, by ascending node numbers.", DescribedTables::notReachedByRank);
    }

    // ---- labels

    private static void eachOnce(String what, IntervalRouter x) {
        int n = x.size(false);
        int[] found = new int[n];
        for (int v = 0; v < n; v++) {
            found[v] = x.label(v);
            Expect.due("the node with the label of node " + v + " behind " + what, x.nodeWith(found[v]), v);
        }
        Arrays.sort(found);
        for (int i = 0; i < n; i++) {
            Expect.due("label in order behind " + what, found[i], i);
        }
    }

    private static void eachLabelOnce() {
        for (int n = 1; n <= 9; n++) {
            IntervalRouter x = new IntervalRouter();
            x.begin(n);
            eachOnce("begin()", x);
            for (int v = 2; v < n; v++) {
                x.addLink(v, v - 2, v);
            }
            x.setLabels(1, n - 1);
            eachOnce("setLabels(1)", x);
            x.setLabels(2, n / 2);
            eachOnce("setLabels(2)", x);
            x.shuffle(100 + n);
            eachOnce("shuffle()", x);
            x.turn(9);
            eachOnce("turn()", x);
            x.swapLabels(0, n - 1);
            eachOnce("swapLabels()", x);
        }
        IntervalRouter six = Nets.of("6;051;011;121;131;141");
        six.setLabels(3, 0);
        eachOnce("setLabels(3)", six);
    }

    private static void initialLabels() {
        IntervalRouter x = new IntervalRouter();
        x.begin(9);
        Expect.dueText("labels", Nets.labels(x), "012345678");
        x.shuffle(1);
        x.addLink(0, 1, 1);
        Expect.yes("that a link leaves the labels", !Nets.labels(x).equals("012345678"));
        x.begin(9);
        Expect.dueText("labels", Nets.labels(x), "012345678");
    }

    private static void circle() {
        IntervalRouter x = Nets.of("5;201");
        Expect.due("from 4 to 0", x.setRange(2, 0, 4, 0), 2);
        Expect.dueText("from 4 to 0", Nets.table(x, 2), "0...0");
        Expect.due("4 and 0 are one run", x.runs(2, 0), 1);
        Expect.due("that begins at 4", x.runEnd(2, 0, 0, false), 4);
        Expect.due("and ends at 0", x.runEnd(2, 0, 0, true), 0);
        x.turn(1);
        Expect.dueText("turned by one", Nets.labels(x), "12340");
    }

    private static void interval(IntervalRouter x, int from, int to, String table) {
        x.setRange(5, -1, 0, 5);
        x.setRange(5, 0, from, to);
        Expect.dueText("from " + from + " to " + to, Nets.table(x, 5), table);
    }

    private static void interval() {
        // node 5 has the label 5
        IntervalRouter x = Nets.of("6;501");
        interval(x, 0, 0, "0.....");
        interval(x, 3, 3, "...0..");
        interval(x, 4, 4, "....0.");
        interval(x, 5, 5, "......");
        interval(x, 0, 1, "00....");
        interval(x, 1, 3, ".000..");
        interval(x, 4, 0, "0...0.");
        interval(x, 4, 1, "00..0.");
        interval(x, 5, 0, "0.....");
        interval(x, 0, 5, "00000.");
        interval(x, 3, 2, "00000.");
        interval(x, 1, 0, "00000.");
        interval(x, 5, 4, "00000.");
        interval(x, 2, 0, "0.000.");
    }

    // ---- tables

    private static void entries() {
        IntervalRouter x = Nets.of(STAR);
        for (int label = 0; label < 7; label++) {
            Expect.due("an entry", x.entry(2, label), -1);
        }
        for (int link = 0; link < 6; link++) {
            x.setRange(2, link, link < 2 ? link : link + 1, 6);
        }
        Expect.dueText("all links of the node", Nets.table(x, 2), "01.2345");
        x.setRange(2, -1, 1, 3);
        Expect.dueText("NONE, too", Nets.table(x, 2), "0...345");
        Expect.argument("a link of others", () -> x.setRange(0, 1, 1, 1));
        Expect.dueText("the other nodes have theirs", Nets.table(x, 0), ".......");
    }

    private static void ownLabel() {
        IntervalRouter x = Nets.of("4;011;121;231");
        for (int seed = 0; seed < 5; seed++) {
            x.shuffle(seed);
            for (int v = 0; v < 4; v++) {
                x.setRange(v, Math.min(v, 2), 0, 3);
                Expect.due("set around the circle", x.entry(v, x.label(v)), -1);
                Expect.due("set alone", x.setRange(v, Math.min(v, 2), x.label(v), x.label(v)), 0);
                Expect.due("set alone", x.entry(v, x.label(v)), -1);
            }
            x.makeTables();
            for (int v = 0; v < 4; v++) {
                Expect.due("of a best table", x.entry(v, x.label(v)), -1);
            }
        }
    }

    private static void initialEntries() {
        IntervalRouter x = new IntervalRouter();
        x.begin(9);
        Expect.yes("that all entries are NONE behind begin()", Nets.allNone(x));
        Expect.yes("that all entries are NONE behind parse()", Nets.allNone(Nets.of(STAR)));
    }

    private static void ownLabelLeftOut() {
        IntervalRouter x = Nets.of(STAR);
        x.setRange(2, 0, 1, 3);
        Expect.due("1 and 3 are next to each other without 2", x.runs(2, 0), 1);
        Expect.due("first", x.runEnd(2, 0, 0, false), 1);
        Expect.due("last", x.runEnd(2, 0, 0, true), 3);
        // the own label is the first one, then the last one
        x.swapLabels(2, 0);
        x.setRange(2, 0, 6, 1);
        Expect.due("6 and 1 are next to each other without 0", x.runs(2, 0), 1);
        Expect.due("first", x.runEnd(2, 0, 0, false), 6);
        Expect.due("last", x.runEnd(2, 0, 0, true), 1);
        x.swapLabels(2, 6);
        x.setRange(2, 0, 5, 0);
        Expect.due("5 and 0 are next to each other without 6", x.runs(2, 0), 1);
        Expect.due("first", x.runEnd(2, 0, 0, false), 5);
        Expect.due("last", x.runEnd(2, 0, 0, true), 0);
    }

    private static void longestSequence() {
        IntervalRouter x = Nets.of(STAR);
        x.setRange(2, 0, 3, 5);
        Expect.due("three labels, one run", x.runs(2, 0), 1);
        Expect.due("first", x.runEnd(2, 0, 0, false), 3);
        Expect.due("last", x.runEnd(2, 0, 0, true), 5);
        x.setRange(2, 1, 4, 4);
        Expect.due("parted by another link", x.runs(2, 0), 2);
        x.setRange(2, -1, 4, 4);
        Expect.due("parted by NONE", x.runs(2, 0), 2);
        x.setRange(2, 0, 4, 4);
        Expect.due("one again", x.runs(2, 0), 1);
    }

    private static void lastNextToFirst() {
        IntervalRouter x = Nets.of(STAR);
        x.setRange(2, 0, 6, 0);
        Expect.due("6 and 0", x.runs(2, 0), 1);
        x.setRange(2, 0, 4, 4);
        Expect.due("6 and 0, and 4", x.runs(2, 0), 2);
        x.setRange(2, -1, 6, 6);
        Expect.due("0 and 4", x.runs(2, 0), 2);
        x.setRange(2, -1, 4, 4);
        Expect.due("0 alone", x.runs(2, 0), 1);
    }

    private static void thisLinkAlone() {
        IntervalRouter x = Nets.of(STAR);
        Expect.due("all are NONE", x.runs(2, 0), 0);
        x.setRange(2, 1, 0, 6);
        Expect.due("all are another link", x.runs(2, 0), 0);
        Expect.due("the other link", x.runs(2, 1), 1);
        x.setRange(2, 0, 3, 3);
        Expect.due("one of it", x.runs(2, 0), 1);
        Expect.due("the other link goes around", x.runs(2, 1), 1);
    }

    private static void allEntries() {
        IntervalRouter x = Nets.of(STAR);
        for (int own = 0; own < 7; own++) {
            x.swapLabels(2, x.nodeWith(own));
            x.setRange(2, 3, 0, 6);
            Expect.due("all, own label " + own, x.runs(2, 3), 1);
            Expect.due("all, own label " + own, x.tableSize(2), 1);
            Expect.due("all, own label " + own, x.compactness(), 1);
        }
        IntervalRouter two = Nets.of("2;011");
        two.setRange(0, 0, 1, 1);
        Expect.due("a single entry", two.runs(0, 0), 1);
        Expect.due("a single entry", two.tableSize(0), 1);
    }

    private static void sizeOfATable() {
        IntervalRouter x = Nets.of(STAR);
        Expect.due("no runs", x.tableSize(2), 0);
        x.setRange(2, 0, 0, 0);
        Expect.due("0", x.tableSize(2), 1);
        x.setRange(2, 1, 1, 1);
        Expect.due("0 1", x.tableSize(2), 2);
        x.setRange(2, 0, 4, 4);
        Expect.due("0 1 . . 0", x.tableSize(2), 3);
        x.setRange(2, 1, 6, 6);
        Expect.due("0 1 . . 0 . 1", x.tableSize(2), 4);
        x.setRange(2, 0, 6, 6);
        Expect.due("0 1 . . 0 . 0", x.tableSize(2), 3);
        Expect.due("the other nodes do not count", x.tableSize(1), 0);
    }

    private static void sizeOfTheNetwork() {
        IntervalRouter x = Nets.of(STAR);
        Expect.due("nothing", x.tableSize(-1), 0);
        x.setRange(0, 0, 1, 1);
        x.setRange(0, 0, 3, 3);
        x.setRange(0, 0, 5, 5);
        Expect.due("the first node", x.tableSize(-1), 3);
        x.setRange(6, 5, 2, 3);
        Expect.due("the last node, too", x.tableSize(-1), 4);
        x.setRange(2, 5, 3, 3);
        Expect.due("three nodes", x.tableSize(-1), 5);
    }

    private static void greatestNumberOfRuns() {
        IntervalRouter x = Nets.of(STAR);
        Expect.due("nothing", x.compactness(), 0);
        for (int link = 0; link < 6; link++) {
            x.setRange(2, link, link < 2 ? link : link + 1, 6);
        }
        Expect.due("six links with one run each", x.compactness(), 1);
        x.setRange(6, 5, 0, 0);
        x.setRange(6, 5, 2, 2);
        Expect.due("two at the last node", x.compactness(), 2);
        x.setRange(0, 0, 2, 2);
        x.setRange(0, 0, 4, 4);
        x.setRange(0, 0, 6, 6);
        Expect.due("three at the first node", x.compactness(), 3);
        x.setRange(0, 0, 1, 6);
        Expect.due("one at the first node", x.compactness(), 2);
    }

    // ---- good links

    private static void beginsAShortestWay() {
        // 0 - 3 costs 2 over 1 and over 2, and 3 at once
        IntervalRouter x = Nets.of("4;011;131;021;231;033");
        Expect.due("two ways", x.goodLinks(0, 3), 0b00101);
        Expect.due("from the other end", x.goodLinks(3, 0), 0b01010);
        Expect.due("for itself there is none", x.goodLinks(3, 3), 0);
        x.setLength(4, 2);
        Expect.due("three ways", x.goodLinks(0, 3), 0b10101);
        x.setLength(4, 1);
        Expect.due("one way", x.goodLinks(0, 3), 0b10000);
        Expect.due("1 - 2 over 0 or 3", x.goodLinks(1, 2), 0b00011);
    }

    private static void lengthPlusDistance() {
        // from 0 to 2: 4 over 1, 9 at once; from 0 to 3: 4 + 1, or 9 + 1
        IntervalRouter x = Nets.of("4;012;122;029;231");
        Expect.due("a long link", x.goodLinks(0, 2), 0b001);
        Expect.due("behind a long link", x.goodLinks(0, 3), 0b001);
        x.setLength(2, 4);
        Expect.due("as long", x.goodLinks(0, 2), 0b101);
        Expect.due("as long, behind it", x.goodLinks(0, 3), 0b101);
        Expect.due("the other way", x.goodLinks(3, 0), 0b1000);
        x.setLength(2, 3);
        Expect.due("shorter", x.goodLinks(0, 2), 0b100);
        // the link 2 - 3 is one of node 2, but leads away
        Expect.due("not away", x.goodLinks(2, 0), 0b100);
    }

    private static void goodLinksAlone() {
        IntervalRouter x = Nets.of("6;019;121;201;233;341;051;452");
        x.shuffle(2);
        x.makeTables();
        for (int v = 0; v < 6; v++) {
            for (int w = 0; w < 6; w++) {
                Expect.due("check(" + v + ", " + w + ")", x.check(v, w), v == w ? 0 : 1);
            }
        }
    }

    private static void noneForTheOthers() {
        IntervalRouter x = Nets.of("6;031;151;531");
        x.setLabels(0, 0);
        x.setRange(0, 0, 0, 5);
        x.makeTables();
        Expect.dueText("node 0 reaches 1, 3 and 5", Nets.table(x, 0), ".0.0.0");
        Expect.dueText("node 2 reaches nothing", Nets.table(x, 2), "......");
        Expect.dueText("node 3", Nets.table(x, 3), "02...2");
        Expect.due("NONE parts runs: 3, and 5 with 1", x.tableSize(0), 2);
        Expect.due("NONE has no runs", x.bestSize(2), 0);
    }

    private static void smallestSize() {
        // node 0: label 1 over link 1, 2 over both, 3 over link 1, 4 over link 0
        IntervalRouter x = Nets.of("5;041;011;121;421;131");
        Expect.due("the size", x.bestSize(0), 2);
        x.makeTables();
        Expect.dueText("1 0 1 0 would come before, but it is larger", Nets.table(x, 0), ".1110");
        // now 2 over link 1, and 3 over both
        x.swapLabels(2, 3);
        x.makeTables();
        Expect.dueText("1 1 0 0 is as small as 1 1 1 0", Nets.table(x, 0), ".1100");
        Expect.due("the size", x.tableSize(0), 2);
        // label 1 over link 1, 2 over 0 or 2, 3 over 2, 4 over 1, 5 over 0
        IntervalRouter y = Nets.of("6;051;011;031;521;321;141");
        y.makeTables();
        Expect.dueText("a run of link 0 costs as much as one of another link", Nets.table(y, 0), ".12210");
        // label 1 over 0 or 1, 2 over 1, 3 over 0, 4 over 2
        IntervalRouter w = Nets.of("5;031;021;041;311;211");
        w.makeTables();
        Expect.dueText("the first label has not the lowest link at any price", Nets.table(w, 0), ".1102");
        // label 6 over 6 or 7, 7 over each of the eight links, 8 over 7: the last one of eight makes one run of three
        IntervalRouter z = Nets.of("9;083;011;021;031;041;051;062;071;182;282;382;482;582;681;782;761");
        z.swapLabels(7, 8);
        z.makeTables();
        Expect.dueText("eight links to choose from", Nets.table(z, 0), ".12345777");
        // the same the other way round: node 7 has label 6, node 8 has 7, node 6 has 8
        z.setLabels(0, 0);
        z.swapLabels(6, 7);
        z.swapLabels(6, 8);
        z.makeTables();
        Expect.dueText("eight links to choose from, the other way round", Nets.table(z, 0), ".12345777");
    }

    private static void lexicographicallyFirst() {
        // a ring of 4: node 0 sends letters for label 2 over link 0 or 3
        IntervalRouter x = Nets.of("4;011;121;231;301");
        x.makeTables();
        Expect.dueText(".003 and .033 are equal", Nets.table(x, 0), ".003");
        Expect.dueText("0.10 and 0.11 are equal", Nets.table(x, 1), "0.10");
        Expect.dueText("11.2 and 21.2 are equal", Nets.table(x, 2), "11.2");
        Expect.dueText("322. and 332. are equal", Nets.table(x, 3), "322.");
        // node 1: label 0 over 4 or 5, 2 over 5, 3 over 4, 5 over 1 or 4. Of size 3 are
        // 4.54.4, 5.54.1 and 5.54.4: the first one by label 0, although 5.54.1 is lower at label 5, behind the own one
        IntervalRouter y = Nets.of("6;351;512;301;201;131;121");
        y.makeTables();
        Expect.due("the size", y.tableSize(1), 3);
        Expect.dueText("label 0 counts before label 5", Nets.table(y, 1), "4.54.4");
        // link 10 comes behind link 2: links are compared by their numbers
        IntervalRouter z = Nets.of("9;451;461;011;471;481;561;571;581;671;681;031;121;321");
        z.makeTables();
        Expect.due("over 2 or 10", z.goodLinks(0, 2), 1 << 2 | 1 << 10);
        Expect.dueText("1: 2, 2: 2 or a, 3: a", Nets.table(z, 0), ".22a.....");
    }

    // ---- letters

    private static void overTheEntryOfTheLabel() {
        IntervalRouter x = Nets.of("3;013;124;025");
        x.swapLabels(1, 2);
        // label 2 is node 1
        x.setRange(0, 0, 2, 2);
        Expect.due("to node 1", x.send(0, 1), 3);
        Expect.due("to node 2", x.send(0, 2), -1);
        x.setRange(0, 2, 2, 2);
        x.setRange(2, 1, 2, 2);
        Expect.due("to node 1 over node 2", x.send(0, 1), 9);
        Expect.due("the node on the way", x.wayNode(0, 1, 1), 2);
        x.setRange(1, 1, 0, 1);
        Expect.due("node 1 sends it no further", x.wayNode(0, 1, 3), -1);
    }

    private static void arrivesWhenItComes() {
        IntervalRouter x = Nets.of("4;011;121;231");
        x.makeTables();
        Expect.due("at once", x.send(2, 2), 0);
        Expect.due("next to it", x.send(0, 1), 1);
        Expect.due("at the end", x.send(0, 3), 3);
        Expect.due("no further than its goal", x.wayNode(0, 2, 2), 2);
        Expect.due("no further than its goal", x.wayNode(0, 2, 3), -1);
        Expect.due("all arrive", x.arriving(), 12);
        IntervalRouter empty = Nets.of("4;011;121;231");
        Expect.due("where it is already, without tables", empty.send(3, 3), 0);
    }

    private static void stopsAtNone() {
        IntervalRouter x = Nets.of("4;011;121;231");
        Expect.due("at the beginning", x.send(0, 3), -1);
        Expect.due("the way is its beginning", x.wayNode(0, 3, 1), -1);
        x.makeTables();
        x.setRange(2, -1, 3, 3);
        Expect.due("on the way", x.send(0, 3), -1);
        Expect.due("the last node", x.wayNode(0, 3, 2), 2);
        Expect.due("behind it", x.wayNode(0, 3, 3), -1);
        Expect.due("NONE at the goal does not matter", x.send(3, 2), 1);
        Expect.due("NONE for another label does not matter", x.send(0, 2), 2);
    }

    private static void goesAround() {
        IntervalRouter x = Nets.of("3;011;121");
        x.setRange(0, 0, 2, 2);
        x.setRange(1, 0, 2, 2);
        Expect.due("to and fro", x.send(0, 2), -1);
        Expect.due("node n + 1", x.wayNode(0, 2, 3), 1);
        Expect.due("no node n + 2", x.wayNode(0, 2, 4), -1);
        // in a ring of 9 the letters to 8 go up from 0: 9 nodes, and they arrive
        IntervalRouter ring = Nets.of("9;011;121;231;341;451;561;671;781;801");
        for (int v = 0; v < 8; v++) {
            ring.setRange(v, v, 8, 8);
        }
        Expect.due("n nodes", ring.send(0, 8), 8);
        Expect.due("the n-th one", ring.wayNode(0, 8, 8), 8);
        Expect.due("no node n + 1", ring.wayNode(0, 8, 9), -1);
        // the last one sends them back
        ring.setRange(7, 6, 8, 8);
        Expect.due("it comes to 7 and turns", ring.send(0, 8), -1);
        Expect.due("n nodes", ring.wayNode(0, 8, 8), 6);
        Expect.due("n + 1 nodes", ring.wayNode(0, 8, 9), 7);
        Expect.due("no more", ring.wayNode(0, 8, 10), -1);
    }

    // ---- labelings

    private static void firstVisits() {
        // a ring with a tail: 0 - 1 - 2 - 0, 2 - 3
        IntervalRouter x = Nets.of("4;011;121;201;231");
        x.setLabels(1, 0);
        Expect.dueText("from 0: 0 1 2 3", Nets.labels(x), "0123");
        x.setLabels(1, 3);
        Expect.dueText("from 3: 3 2 1 0", Nets.labels(x), "3210");
        x.setLabels(1, 1);
        Expect.dueText("from 1: 1 0 2 3", Nets.labels(x), "1023");
        Expect.due("a single node", Nets.of("1").setLabels(1, 0), 0);
    }

    private static void lowestLinkFirst() {
        // node 0: link 0 to 3, link 1 to 1, link 3 to 2; the lengths do not matter
        IntervalRouter x = Nets.of("4;039;011;129;021");
        x.setLabels(1, 0);
        Expect.dueText("0, 3, back, 1, 2", Nets.labels(x), "0231");
        // with the link 1 - 2 behind 0 - 2 it is the same, for 1 goes to 2 before 0 does
        IntervalRouter y = Nets.of("4;039;011;021;129");
        y.setLabels(1, 0);
        Expect.dueText("0, 3, back, 1, 2", Nets.labels(y), "0231");
        y.setLabels(1, 2);
        Expect.dueText("2, 0, 3, back, 1", Nets.labels(y), "1302");
    }

    private static void backWhenThereIsNone() {
        // 0 - 1 - 2, 1 - 3, 0 - 4, 4 - 5: two steps back from 2 and from 3
        IntervalRouter x = Nets.of("6;011;121;041;131;451");
        x.setLabels(1, 0);
        Expect.dueText("0, 1, 2, back, 3, back, back, 4, 5", Nets.labels(x), "012345");
        x.setLabels(1, 2);
        Expect.dueText("2, 1, 0, 4, 5, back to 1, 3", Nets.labels(x), "210534");
        IntervalRouter line = Nets.of("9;011;121;231;341;451;561;671;781");
        line.setLabels(1, 4);
        Expect.dueText("down to 0, back to 4, up to 8", Nets.labels(line), "432105678");
        // eight times forth and back
        IntervalRouter star = Nets.of("9;081;071;061;051;041;031;021;011");
        star.setLabels(1, 0);
        Expect.dueText("0, 8, back, 7, back, and so on", Nets.labels(star), "087654321");
    }

    private static void notReachedDepthFirst() {
        IntervalRouter x = Nets.of("7;611;641;251");
        x.setLabels(1, 6);
        Expect.dueText("6, 1, 4, then 0, 2, 3, 5", Nets.labels(x), "3145260");
        x.setLabels(1, 3);
        Expect.dueText("3, then 0, 1, 2, 4, 5, 6", Nets.labels(x), "1230456");
        IntervalRouter apart = Nets.of("3");
        apart.setLabels(1, 2);
        Expect.dueText("without links", Nets.labels(apart), "120");
        // from 4 the search does not go on at 0, which is joined to 3
        IntervalRouter y = Nets.of("5;031;411");
        y.setLabels(1, 4);
        Expect.dueText("4, 1, then 0, 2, 3", Nets.labels(y), "21340");
        // what an earlier search went over is forgotten, and so is a link that was removed
        IntervalRouter z = Nets.of("4;011");
        z.setLabels(1, 0);
        z.removeLink(0);
        z.setLabels(1, 0);
        Expect.dueText("0 alone", Nets.labels(z), "0123");
        z.addLink(0, 3, 1);
        z.setLabels(1, 1);
        Expect.dueText("1, then 0, 2, 3", Nets.labels(z), "1023");
        IntervalRouter removed = Nets.of("4;011;031");
        removed.removeLink(1);
        removed.setLabels(1, 3);
        Expect.dueText("3, then 0, 1, 2", Nets.labels(removed), "1230");
        removed.setLabels(1, 1);
        Expect.dueText("1, 0, then 2, 3", Nets.labels(removed), "1023");
    }

    private static void byDistance() {
        // distances from 0: 0 7 2 5
        IntervalRouter x = Nets.of("4;019;022;233;312");
        x.setLabels(2, 0);
        Expect.dueText("from 0", Nets.labels(x), "0312");
        // from 1: 7 0 5 2
        x.setLabels(2, 1);
        Expect.dueText("from 1", Nets.labels(x), "3021");
        IntervalRouter line = Nets.of("9;019;129;239;349;459;569;679;789");
        line.setLabels(2, 8);
        Expect.dueText("up to 72", Nets.labels(line), "876543210");
    }

    private static void equalDistances() {
        IntervalRouter x = Nets.of("5;431;421;411;401");
        x.setLabels(2, 4);
        Expect.dueText("4, then 0, 1, 2, 3", Nets.labels(x), "12340");
        x.setLabels(2, 2);
        Expect.dueText("2, 4, then 0, 1, 3", Nets.labels(x), "23041");
    }

    private static void notReachedByRank() {
        IntervalRouter x = Nets.of("6;359;021;411");
        x.setLabels(2, 5);
        Expect.dueText("5, 3, then 0, 1, 2, 4", Nets.labels(x), "234150");
        IntervalRouter line = Nets.of("9;129;239;349;459;569;679;789");
        line.setLabels(2, 8);
        Expect.dueText("behind the distance 63", Nets.labels(line), "876543210");
    }
}
