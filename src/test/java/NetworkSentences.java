/** The sentences of the promises 1 to 10. */
final class NetworkSentences {
    private static final Class<IndexOutOfBoundsException> INDEX = IndexOutOfBoundsException.class;
    private static final Class<IllegalArgumentException> ARGUMENT = IllegalArgumentException.class;
    private static final Class<IllegalStateException> STATE = IllegalStateException.class;

    /** Three nodes with two links, labels and tables; what was saved is not full. */
    private static final String PAIR = "3;014;125";

    private NetworkSentences() {
    }

    static void tell(Sentences s) {
        s.promise(1);
        s.says("Creates a workbench with the network without nodes.", NetworkSentences::newObject);
        begin(s);
        addLink(s);
        removeLink(s);
        setLength(s);
        sizeAndLink(s);
        distance(s);
        goodLinks(s);
        kind(s);
    }

    private static void begin(Sentences s) {
        s.promise(2);
        s.says("Makes a network of nodes without links,", NetworkSentences::beginWithoutLinks);
        s.says("with the initial labels.", NetworkSentences::beginLabels);
        s.says("Undoable.", NetworkSentences::beginUndone);
        s.says("nodes: 0 to 9", NetworkSentences::beginRange);
        s.says("Returns the number of links that there were.", NetworkSentences::beginAnswer);
        s.says("Throws IllegalArgumentException if nodes is out of range", NetworkSentences::beginRefused);
    }

    private static void addLink(Sentences s) {
        s.promise(3);
        s.says("Adds a link.", NetworkSentences::addsALink);
        s.says("Undoable.", NetworkSentences::addLinkUndone);
        s.says("u: a node", NetworkSentences::addLinkFirst);
        s.says("v: another node", NetworkSentences::addLinkSecond);
        s.says("length: 1 to 9", NetworkSentences::addLinkLength);
        s.says("Returns the number of the link.", NetworkSentences::addLinkAnswer);
        s.says("Throws IndexOutOfBoundsException if there is no such node", NetworkSentences::addLinkNoNode);
        s.says("Throws IllegalArgumentException if u equals v,", NetworkSentences::addLinkSameNode);
        s.says("length is out of range,", NetworkSentences::addLinkLengthRefused);
        s.says("or a link joins both nodes already", NetworkSentences::addLinkJoined);
        s.says("Throws IllegalStateException if there are 16 links", NetworkSentences::addLinkFull);
    }

    private static void removeLink(Sentences s) {
        s.promise(4);
        s.says("Removes a link;", NetworkSentences::removesALink);
        s.says("the numbers of those behind it decrease by 1.", NetworkSentences::numbersDecrease);
        s.says("Undoable.", NetworkSentences::removeLinkUndone);
        s.says("link: number of a link", NetworkSentences::removeLinkRange);
        s.says("Returns the number of links that are left.", NetworkSentences::removeLinkAnswer);
        s.says("Throws IndexOutOfBoundsException if there is no such link", NetworkSentences::removeLinkRefused);
    }

    private static void setLength(Sentences s) {
        s.promise(5);
        s.says("Sets the length of a link.", NetworkSentences::setsTheLength);
        s.says("Undoable.", NetworkSentences::setLengthUndone);
        s.says("link: number of a link", NetworkSentences::setLengthLink);
        s.says("length: 1 to 9", NetworkSentences::setLengthRange);
        s.says("Returns the previous length.", NetworkSentences::setLengthAnswer);
        s.says("Throws IndexOutOfBoundsException if there is no such link", NetworkSentences::setLengthNoLink);
        s.says("Throws IllegalArgumentException if length is out of range", NetworkSentences::setLengthRefused);
    }

    private static void sizeAndLink(Sentences s) {
        s.promise(6);
        s.says("Returns the number of nodes or of links.", NetworkSentences::sizes);
        s.says("links: true for the links, false for the nodes", NetworkSentences::sizeOfWhich);
        s.says("Returns that number.", NetworkSentences::sizesAtTheirLimits);
        s.promise(7);
        s.leads("Returns something about a link.");
        s.says("link: number of a link", NetworkSentences::linkRange);
        s.says("what: 0 the node told first, 1 the node told second, 2 its length", NetworkSentences::linkWhat);
        s.says("Returns that value.", NetworkSentences::linkAnswer);
        s.says("Throws IndexOutOfBoundsException if there is no such link", NetworkSentences::linkNoLink);
        s.says("Throws IllegalArgumentException if what is out of range", NetworkSentences::linkWhatRefused);
    }

    private static void distance(Sentences s) {
        s.promise(8);
        s.says("Returns the distance of two nodes.", NetworkSentences::distances);
        s.says("u: a node", NetworkSentences::distanceFirst);
        s.says("v: a node", NetworkSentences::distanceSecond);
        s.says("Returns the distance, 0 for the same node;", NetworkSentences::distanceOfTheSame);
        s.says("NONE if there is none.", NetworkSentences::distanceNone);
        s.says("Throws IndexOutOfBoundsException if there is no such node", NetworkSentences::distanceRefused);
    }

    private static void goodLinks(Sentences s) {
        s.promise(9);
        s.says("Returns the good links of a node for another one.", NetworkSentences::goodForAnother);
        s.says("v: a node", NetworkSentences::goodLinksFirst);
        s.says("w: a node", NetworkSentences::goodLinksSecond);
        s.says("Returns a bit set of links,", NetworkSentences::goodLinksBits);
        s.says("0 if v equals w", NetworkSentences::goodLinksOfTheSame);
        s.says("or there is no way.", NetworkSentences::goodLinksNoWay);
        s.says("Throws IndexOutOfBoundsException if there is no such node", NetworkSentences::goodLinksRefused);
    }

    private static void kind(Sentences s) {
        s.promise(10);
        s.leads("Tells of what kind the network is.");
        s.says("Returns 0 not connected", NetworkSentences::notConnected);
        s.says("(or without nodes),", NetworkSentences::kindWithoutNodes);
        s.says("1 a tree (connected, without a cycle;", NetworkSentences::tree);
        s.says("a single node, too),", NetworkSentences::singleNode);
        s.says("2 a ring (at least three nodes,", NetworkSentences::smallestRing);
        s.says("connected, each node with exactly two links),", NetworkSentences::ring);
        s.says("3 otherwise.", NetworkSentences::otherKind);
    }

    private static void past(IntervalRouter x) {
        x.swapLabels(0, 2);
        x.makeTables();
    }

    // ---- 1 and 2

    private static void newObject() {
        IntervalRouter x = new IntervalRouter();
        Expect.due("nodes", x.size(false), 0);
        Expect.due("links", x.size(true), 0);
        Expect.due("kind", x.kind(), 0);
        Expect.index("label(0)", () -> x.label(0));
        Expect.index("nodeWith(0)", () -> x.nodeWith(0));
        Expect.index("link(0, 0)", () -> x.link(0, 0));
        Expect.due("tableSize(NONE)", x.tableSize(-1), 0);
        Expect.due("compactness()", x.compactness(), 0);
        Expect.due("checked(0)", x.checked(0), 0);
        Expect.due("arriving()", x.arriving(), 0);
        Expect.dueDouble("stretch()", x.stretch(), 0.0);
        Expect.due("parse() of no text", x.parse(), -10);
        Expect.state("nothing is saved", x::undo);
        Expect.due("length of the text", x.clearText(), 0);
    }

    private static void beginWithoutLinks() {
        IntervalRouter x = Nets.of(PAIR);
        x.begin(5);
        Expect.due("nodes", x.size(false), 5);
        Expect.due("links", x.size(true), 0);
        Expect.due("distance", x.distance(0, 1), -1);
        Expect.due("good links", x.goodLinks(0, 1), 0);
        Expect.due("the first link is link 0", x.addLink(0, 1, 1), 0);
    }

    private static void beginLabels() {
        IntervalRouter x = Nets.of("4");
        x.turn(1);
        x.begin(4);
        Expect.dueText("as many nodes", Nets.labels(x), "0123");
        x.turn(1);
        x.begin(2);
        Expect.dueText("fewer nodes", Nets.labels(x), "01");
        x.turn(1);
        x.begin(9);
        Expect.dueText("more nodes", Nets.labels(x), "012345678");
    }

    private static void beginUndone() {
        Twins.undone(PAIR, NetworkSentences::past, x -> x.begin(0));
        Twins.undone(PAIR, NetworkSentences::past, x -> x.begin(9));
        Twins.undone("0", x -> { }, x -> x.begin(0));
    }

    private static void beginRange() {
        for (int n = 0; n <= 9; n++) {
            IntervalRouter x = Nets.of(PAIR);
            x.begin(n);
            Expect.due("nodes", x.size(false), n);
        }
    }

    private static void beginAnswer() {
        Expect.due("a new object", new IntervalRouter().begin(9), 0);
        IntervalRouter x = Nets.full();
        Expect.due("16 links", x.begin(9), 16);
        Expect.due("none any more", x.begin(9), 0);
        Expect.due("two links", Nets.of(PAIR).begin(0), 2);
    }

    private static void beginRefused() {
        Limits.refused(PAIR, 0, 9, ARGUMENT, (x, nodes) -> x.begin(nodes));
    }

    // ---- 3

    private static void addsALink() {
        IntervalRouter x = Nets.of("3");
        x.turn(1);
        x.addLink(2, 1, 7);
        Expect.due("links", x.size(true), 1);
        Expect.due("told first", x.link(0, 0), 2);
        Expect.due("told second", x.link(0, 1), 1);
        Expect.due("length", x.link(0, 2), 7);
        Expect.due("distance", x.distance(1, 2), 7);
        Expect.due("good link", x.goodLinks(1, 2), 1);
        Expect.dueText("labels", Nets.labels(x), "120");
    }

    private static void addLinkUndone() {
        Twins.undone(PAIR, NetworkSentences::past, x -> x.addLink(0, 2, 1));
    }

    private static void addLinkFirst() {
        Limits.refused("4", 0, 3, INDEX, (x, u) -> x.addLink(u, 0, 1));
        Limits.taken("4", 0, 2, (x, u) -> x.addLink(u, 3, 1));
        Limits.taken("4", 1, 3, (x, u) -> x.addLink(u, 0, 1));
    }

    private static void addLinkSecond() {
        Limits.refused("4", 0, 3, INDEX, (x, v) -> x.addLink(0, v, 1));
        Limits.taken("4", 1, 3, (x, v) -> x.addLink(0, v, 1));
        Limits.taken("4", 0, 2, (x, v) -> x.addLink(3, v, 1));
        IntervalRouter x = Nets.of("4");
        Expect.refused("not another one", x, ARGUMENT, () -> x.addLink(3, 3, 1));
    }

    private static void addLinkLength() {
        for (int length = 1; length <= 9; length++) {
            IntervalRouter x = Nets.of("2");
            Expect.due("the number", x.addLink(0, 1, length), 0);
            Expect.due("the length", x.link(0, 2), length);
            Expect.due("the distance", x.distance(1, 0), length);
        }
    }

    private static void addLinkAnswer() {
        IntervalRouter x = Nets.of("6");
        int number = 0;
        for (int u = 0; u < 6; u++) {
            for (int v = u + 1; v < 6; v++) {
                Expect.due("the number", x.addLink(v, u, 1), number);
                number++;
            }
        }
        x.removeLink(4);
        Expect.due("the last number again", x.addLink(0, 5, 1), 14);
    }

    private static void addLinkNoNode() {
        Limits.refused("4", 0, 3, INDEX, (x, u) -> x.addLink(u, 1, 1));
        Limits.refused("4", 0, 3, INDEX, (x, v) -> x.addLink(1, v, 1));
        Limits.refused("4", 0, 3, INDEX, (x, both) -> x.addLink(both, both, 1));
        IntervalRouter none = new IntervalRouter();
        Expect.index("without nodes", () -> none.addLink(0, 1, 1));
        IntervalRouter one = Nets.of("1");
        Expect.index("with one node", () -> one.addLink(0, 1, 1));
    }

    private static void addLinkSameNode() {
        IntervalRouter x = Nets.of(PAIR);
        for (int v = 0; v < 3; v++) {
            int node = v;
            Expect.refused("node " + v, x, ARGUMENT, () -> x.addLink(node, node, 1));
        }
        IntervalRouter one = Nets.of("1");
        Expect.refused("the only node", one, ARGUMENT, () -> one.addLink(0, 0, 1));
    }

    private static void addLinkLengthRefused() {
        Limits.refused("2", 1, 9, ARGUMENT, (x, length) -> x.addLink(0, 1, length));
    }

    private static void addLinkJoined() {
        IntervalRouter x = Nets.full();
        for (int i = 0; i < 16; i++) {
            int u = x.link(i, 0);
            int v = x.link(i, 1);
            Expect.argument("as it was told", () -> x.addLink(u, v, 1));
            Expect.argument("the other way", () -> x.addLink(v, u, 1));
        }
        IntervalRouter y = Nets.of(PAIR);
        Expect.refused("the first link", y, ARGUMENT, () -> y.addLink(1, 0, 4));
        Expect.refused("the last link", y, ARGUMENT, () -> y.addLink(1, 2, 4));
        Expect.due("not joined", y.addLink(2, 0, 4), 2);
        y.undo();
        Expect.due("not joined any more", y.addLink(0, 2, 4), 2);
    }

    private static void addLinkFull() {
        IntervalRouter x = Nets.full();
        x.removeLink(7);
        Expect.due("the 16th link", x.addLink(5, 6, 1), 15);
        Expect.refused("a 17th link", x, STATE, () -> x.addLink(4, 6, 1));
        x.undo();
        Expect.due("there is room again", x.addLink(4, 6, 1), 15);
        Expect.refused("a 17th link", x, STATE, () -> x.addLink(5, 6, 1));
    }

    // ---- 4

    private static void removesALink() {
        IntervalRouter x = Nets.of("3;012;122;029");
        x.turn(2);
        x.removeLink(1);
        Expect.due("links", x.size(true), 2);
        Expect.due("the distance", x.distance(0, 2), 9);
        Expect.due("good links", x.goodLinks(0, 2), 2);
        Expect.dueText("labels", Nets.labels(x), "201");
        x.removeLink(1);
        Expect.due("the distance", x.distance(0, 2), -1);
        Expect.due("good links", x.goodLinks(0, 2), 0);
    }

    private static void numbersDecrease() {
        for (int removed = 0; removed < 16; removed++) {
            IntervalRouter x = Nets.full();
            IntervalRouter before = Nets.full();
            x.removeLink(removed);
            for (int i = 0; i < 15; i++) {
                for (int what = 0; what <= 2; what++) {
                    int old = i < removed ? i : i + 1;
                    Expect.due("link " + old + " without " + removed, x.link(i, what), before.link(old, what));
                }
            }
            Expect.index("link 15 without " + removed, () -> x.link(15, 0));
        }
    }

    private static void removeLinkUndone() {
        Twins.undone(PAIR, NetworkSentences::past, x -> x.removeLink(0));
        Twins.undone(PAIR, NetworkSentences::past, x -> x.removeLink(1));
    }

    private static void removeLinkRange() {
        Limits.taken(Nets.SIXTEEN_OF_SEVEN, 0, 15, (x, link) -> x.removeLink(link));
        Limits.taken("2;011", 0, 0, (x, link) -> x.removeLink(link));
    }

    private static void removeLinkAnswer() {
        IntervalRouter x = Nets.full();
        for (int left = 15; left >= 0; left--) {
            Expect.due("left", x.removeLink(left / 2), left);
        }
    }

    private static void removeLinkRefused() {
        Limits.refused(PAIR, 0, 1, INDEX, (x, link) -> x.removeLink(link));
        Limits.refused(Nets.SIXTEEN_OF_SEVEN, 0, 15, INDEX, (x, link) -> x.removeLink(link));
        Limits.refused("5", 0, -1, INDEX, (x, link) -> x.removeLink(link));
    }

    // ---- 5

    private static void setsTheLength() {
        IntervalRouter x = Nets.of("3;012;122;025");
        x.turn(2);
        x.setLength(1, 4);
        Expect.due("its length", x.link(1, 2), 4);
        Expect.due("the length before it", x.link(0, 2), 2);
        Expect.due("the length behind it", x.link(2, 2), 5);
        Expect.due("its nodes", x.link(1, 0) * 10 + x.link(1, 1), 12);
        Expect.due("a distance", x.distance(0, 2), 5);
        Expect.due("good links", x.goodLinks(0, 2), 4);
        Expect.due("links", x.size(true), 3);
        Expect.dueText("labels", Nets.labels(x), "201");
    }

    private static void setLengthUndone() {
        Twins.undone(PAIR, NetworkSentences::past, x -> x.setLength(0, 9));
        Twins.undone(PAIR, NetworkSentences::past, x -> x.setLength(1, 5));
    }

    private static void setLengthLink() {
        Limits.taken(Nets.SIXTEEN_OF_SEVEN, 0, 15, (x, link) -> x.setLength(link, 1));
        IntervalRouter x = Nets.full();
        x.setLength(15, 1);
        Expect.due("the last one", x.link(15, 2), 1);
        x.setLength(0, 9);
        Expect.due("the first one", x.link(0, 2), 9);
    }

    private static void setLengthRange() {
        for (int length = 1; length <= 9; length++) {
            IntervalRouter x = Nets.of(PAIR);
            x.setLength(1, length);
            Expect.due("the length", x.link(1, 2), length);
            Expect.due("the distance", x.distance(0, 2), 4 + length);
        }
    }

    private static void setLengthAnswer() {
        IntervalRouter x = Nets.of(PAIR);
        Expect.due("as it was added", x.setLength(1, 9), 5);
        Expect.due("as it was set", x.setLength(1, 1), 9);
        Expect.due("the same length", x.setLength(1, 1), 1);
        x.undo();
        x.undo();
        Expect.due("undone", x.setLength(1, 2), 9);
        Expect.due("the other link", x.setLength(0, 2), 4);
    }

    private static void setLengthNoLink() {
        Limits.refused(PAIR, 0, 1, INDEX, (x, link) -> x.setLength(link, 1));
        Limits.refused(Nets.SIXTEEN_OF_SEVEN, 0, 15, INDEX, (x, link) -> x.setLength(link, 1));
        Limits.refused("5", 0, -1, INDEX, (x, link) -> x.setLength(link, 1));
        Limits.refused(PAIR, 0, 1, INDEX, (x, link) -> x.setLength(link, 0));
    }

    private static void setLengthRefused() {
        Limits.refused(PAIR, 1, 9, ARGUMENT, (x, length) -> x.setLength(1, length));
    }

    // ---- 6 and 7

    private static void sizes() {
        IntervalRouter x = Nets.of(PAIR);
        x.addLink(0, 2, 1);
        x.removeLink(0);
        x.removeLink(0);
        Expect.due("nodes", x.size(false), 3);
        Expect.due("links", x.size(true), 1);
    }

    private static void sizeOfWhich() {
        IntervalRouter x = Nets.of("7;011;121");
        Expect.due("true", x.size(true), 2);
        Expect.due("false", x.size(false), 7);
    }

    private static void sizesAtTheirLimits() {
        IntervalRouter x = new IntervalRouter();
        Expect.due("no nodes", x.size(false), 0);
        Expect.due("no links", x.size(true), 0);
        IntervalRouter y = Nets.of(Nets.sixteen());
        Expect.due("9 nodes", y.size(false), 9);
        Expect.due("16 links", y.size(true), 16);
    }

    private static void linkRange() {
        Limits.taken(Nets.SIXTEEN_OF_SEVEN, 0, 15, (x, link) -> x.link(link, 0));
        IntervalRouter x = Nets.full();
        Expect.due("the first one", x.link(0, 1), 1);
        Expect.due("the last one", x.link(15, 1), 4);
    }

    private static void linkWhat() {
        IntervalRouter x = Nets.of("9;807");
        Expect.due("told first", x.link(0, 0), 8);
        Expect.due("told second", x.link(0, 1), 0);
        Expect.due("its length", x.link(0, 2), 7);
        Limits.taken(PAIR, 0, 2, (y, what) -> y.link(0, what));
    }

    private static void linkAnswer() {
        IntervalRouter x = new IntervalRouter();
        x.begin(3);
        x.addLink(2, 0, 9);
        x.addLink(1, 2, 1);
        Expect.due("link 0", x.link(0, 0) * 100 + x.link(0, 1) * 10 + x.link(0, 2), 209);
        Expect.due("link 1", x.link(1, 0) * 100 + x.link(1, 1) * 10 + x.link(1, 2), 121);
    }

    private static void linkNoLink() {
        Limits.refused(PAIR, 0, 1, INDEX, (x, link) -> x.link(link, 0));
        Limits.refused(Nets.SIXTEEN_OF_SEVEN, 0, 15, INDEX, (x, link) -> x.link(link, 0));
        Limits.refused("3", 0, -1, INDEX, (x, link) -> x.link(link, 2));
        Limits.refused(PAIR, 0, 1, INDEX, (x, link) -> x.link(link, 3));
    }

    private static void linkWhatRefused() {
        Limits.refused(PAIR, 0, 2, ARGUMENT, (x, what) -> x.link(1, what));
    }

    // ---- 8

    private static void distances() {
        IntervalRouter x = Nets.of(PAIR);
        Expect.due("0 and 1", x.distance(0, 1), 4);
        Expect.due("1 and 2", x.distance(1, 2), 5);
        Expect.due("0 and 2", x.distance(0, 2), 9);
        Expect.due("2 and 0", x.distance(2, 0), 9);
        Expect.due("the greatest one", Nets.of("9;019;129;239;349;459;569;679;789").distance(8, 0), 72);
        Expect.due("the smallest one", Nets.of("2;011").distance(0, 1), 1);
    }

    private static void distanceFirst() {
        Limits.hold("9", 0, 8, INDEX, (x, u) -> x.distance(u, 0));
        Limits.hold("1", 0, 0, INDEX, (x, u) -> x.distance(u, 0));
    }

    private static void distanceSecond() {
        Limits.hold("9", 0, 8, INDEX, (x, v) -> x.distance(0, v));
        Limits.hold("1", 0, 0, INDEX, (x, v) -> x.distance(0, v));
    }

    private static void distanceOfTheSame() {
        IntervalRouter x = Nets.of("9;011;121");
        for (int v = 0; v < 9; v++) {
            Expect.due("node " + v, x.distance(v, v), 0);
        }
    }

    private static void distanceNone() {
        IntervalRouter x = Nets.of("4;011;231");
        Expect.due("another part", x.distance(0, 3), -1);
        Expect.due("another part", x.distance(2, 1), -1);
        x.begin(4);
        Expect.due("without links", x.distance(0, 1), -1);
        x.undo();
        Expect.due("with links again", x.distance(0, 1), 1);
    }

    private static void distanceRefused() {
        Limits.refused("4;011", 0, 3, INDEX, (x, u) -> x.distance(u, 3));
        Limits.refused("4;011", 0, 3, INDEX, (x, v) -> x.distance(3, v));
        Limits.refused("4;011", 0, 3, INDEX, (x, both) -> x.distance(both, both));
        IntervalRouter none = new IntervalRouter();
        Expect.index("without nodes", () -> none.distance(0, 0));
    }

    // ---- 9

    private static void goodForAnother() {
        IntervalRouter x = Nets.of("4;011;121;231;301");
        Expect.due("next to it", x.goodLinks(0, 1), 0b0001);
        Expect.due("next to it", x.goodLinks(0, 3), 0b1000);
        Expect.due("both ways", x.goodLinks(0, 2), 0b1001);
        Expect.due("both ways from the other end", x.goodLinks(2, 0), 0b0110);
        x.setLength(3, 2);
        Expect.due("one way", x.goodLinks(0, 2), 0b0001);
    }

    private static void goodLinksFirst() {
        Limits.hold("9;011", 0, 8, INDEX, (x, v) -> x.goodLinks(v, 0));
    }

    private static void goodLinksSecond() {
        Limits.hold("9;011", 0, 8, INDEX, (x, w) -> x.goodLinks(0, w));
    }

    private static void goodLinksBits() {
        Expect.due("bits 0 to 7", Nets.eightWays().goodLinks(0, 8), 0xff);
        Expect.due("bits 7 to 14", Nets.eightWays().goodLinks(8, 0), 0xff << 7);
        Expect.due("bit 15", Nets.full().goodLinks(4, 3), 1 << 15);
        Expect.due("bit 0", Nets.full().goodLinks(0, 1), 1);
    }

    private static void goodLinksOfTheSame() {
        IntervalRouter x = Nets.full();
        for (int v = 0; v < 7; v++) {
            Expect.due("node " + v, x.goodLinks(v, v), 0);
        }
    }

    private static void goodLinksNoWay() {
        IntervalRouter x = Nets.of("5;011;231");
        Expect.due("another part", x.goodLinks(0, 2), 0);
        Expect.due("another part", x.goodLinks(3, 1), 0);
        Expect.due("a node alone", x.goodLinks(4, 1), 0);
        Expect.due("a node alone", x.goodLinks(1, 4), 0);
    }

    private static void goodLinksRefused() {
        Limits.refused("4;011", 0, 3, INDEX, (x, v) -> x.goodLinks(v, 3));
        Limits.refused("4;011", 0, 3, INDEX, (x, w) -> x.goodLinks(3, w));
        Limits.refused("4;011", 0, 3, INDEX, (x, both) -> x.goodLinks(both, both));
        IntervalRouter none = new IntervalRouter();
        Expect.index("without nodes", () -> none.goodLinks(0, 0));
    }

    // ---- 10

    private static void kind(String text, int kind) {
        Expect.due("kind() of " + text, Nets.of(text).kind(), kind);
    }

    private static void notConnected() {
        kind("2", 0);
        kind("9", 0);
        kind("3;011", 0);
        kind("3;121", 0);
        // n - 1 links, and n links of which each node has two
        kind("4;011;121;021", 0);
        kind("6;011;121;021;341;451;351", 0);
        kind("5;011;121;021;341", 0);
        kind("9;011;121;231;341;451;561;671", 0);
        // node 0 alone
        kind("4;121;231;311", 0);
    }

    private static void kindWithoutNodes() {
        kind("0", 0);
        Expect.due("a new object", new IntervalRouter().kind(), 0);
    }

    private static void tree() {
        kind("2;011", 1);
        kind("3;011;121", 1);
        kind("4;011;021;031", 1);
        kind("9;011;121;231;341;451;561;671;781", 1);
        kind("9;801;811;821;831;841;851;861;871", 1);
    }

    private static void singleNode() {
        kind("1", 1);
    }

    private static void smallestRing() {
        kind("3;011;121;201", 2);
        kind("3;015;129;201", 2);
        kind("2;011", 1);
    }

    private static void ring() {
        kind("4;011;121;231;301", 2);
        kind("4;021;211;131;301", 2);
        kind("9;011;121;231;341;451;561;671;781;801", 2);
        // two rings; and n links, but not two for each node
        kind("6;011;121;021;341;451;351", 0);
        kind("4;011;121;201;231", 3);
    }

    private static void otherKind() {
        kind("4;011;121;201;231", 3);
        kind("4;011;121;231;301;021", 3);
        kind("4;011;021;031;121;131;231", 3);
        kind("5;011;121;201;031;341;401", 3);
        kind(Nets.SIXTEEN_OF_SEVEN, 3);
        kind(Nets.sixteen(), 3);
    }
}
