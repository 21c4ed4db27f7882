/** Promises 1 to 10. */
public final class NetworkTest {
    public static void main(String[] args) {
        newObject();
        begin();
        addLink();
        addLinkWrong();
        removeLink();
        removeOfSixteen();
        setLength();
        sizeAndLink();
        distance();
        goodLinks();
        kind();
        Expect.end();
    }

    private static void newObject() {
        IntervalRouter x = new IntervalRouter();
        Expect.due("1: nodes", x.size(false), 0);
        Expect.due("1: links", x.size(true), 0);
        Expect.state("1: nothing is saved", x::undo);
        Expect.due("1: the text is empty", x.clearText(), 0);
        // 3083, then 0 for the text, nodes, links, size, compactness, checked() five times, arriving(), saved states
        long h = 3083;
        for (int i = 0; i < 12; i++) {
            h *= 31;
        }
        Expect.due("1: digest", x.digest(), h);
    }

    private static void begin() {
        IntervalRouter x = Nets.of("4;011;121");
        x.shuffle(5);
        x.makeTables();
        Expect.argument("2: begin(-1)", () -> x.begin(-1));
        Expect.argument("2: begin(10)", () -> x.begin(10));
        Expect.due("2: a refused call keeps the nodes", x.size(false), 4);
        Expect.due("2: begin(9) answers the links before", x.begin(9), 2);
        Expect.due("2: nodes", x.size(false), 9);
        Expect.due("2: links", x.size(true), 0);
        Expect.dueText("2: labels", Nets.labels(x), "012345678");
        Expect.due("2: entries", Nets.allNone(x) ? 1 : 0, 1);
        Expect.due("2: begin(0)", x.begin(0), 0);
        Expect.due("2: no nodes", x.size(false), 0);
        x.undo();
        x.undo();
        Expect.due("2: undone", x.size(true), 2);
        Expect.due("2: undone", x.size(false), 4);
    }

    private static void addLink() {
        IntervalRouter x = new IntervalRouter();
        x.begin(3);
        Expect.due("3: first", x.addLink(2, 0, 9), 0);
        x.swapLabels(0, 1);
        x.makeTables();
        Expect.due("3: second", x.addLink(0, 1, 1), 1);
        Expect.due("3: entries", Nets.allNone(x) ? 1 : 0, 1);
        Expect.dueText("3: labels stay", Nets.labels(x), "102");
        Expect.due("3: told first", x.link(0, 0), 2);
        Expect.due("3: told second", x.link(0, 1), 0);
        Expect.due("3: length", x.link(0, 2), 9);
        x.undo();
        Expect.due("3: undone", x.size(true), 1);
        Expect.dueText("3: the tables are back", Nets.table(x, 0), "..0");
    }

    private static void addLinkWrong() {
        IntervalRouter x = new IntervalRouter();
        x.begin(3);
        x.addLink(0, 1, 1);
        x.makeTables();
        long before = x.digest();
        Expect.index("3: node -1", () -> x.addLink(-1, 0, 1));
        Expect.index("3: node 3", () -> x.addLink(0, 3, 1));
        Expect.index("3: the node comes before the length", () -> x.addLink(3, 3, 0));
        Expect.argument("3: the same node", () -> x.addLink(2, 2, 1));
        Expect.argument("3: length 0", () -> x.addLink(0, 2, 0));
        Expect.argument("3: length 10", () -> x.addLink(0, 2, 10));
        Expect.argument("3: joined", () -> x.addLink(0, 1, 2));
        Expect.argument("3: joined the other way", () -> x.addLink(1, 0, 2));
        Expect.due("3: refused calls change nothing", x.digest(), before);
        IntervalRouter full = Nets.full();
        Expect.due("3: 16 links", full.size(true), 16);
        Expect.state("3: a 17th link", () -> full.addLink(5, 6, 1));
        Expect.argument("3: a bad 17th link", () -> full.addLink(5, 6, 0));
        Expect.argument("3: a joined 17th link", () -> full.addLink(1, 0, 1));
        Expect.index("3: a 17th link to no node", () -> full.addLink(5, 7, 1));
    }

    private static void removeLink() {
        IntervalRouter x = Nets.of("4;011;122;233");
        x.turn(1);
        x.makeTables();
        Expect.index("4: link -1", () -> x.removeLink(-1));
        Expect.index("4: link 3", () -> x.removeLink(3));
        Expect.due("4: the refused calls kept the tables", Nets.allNone(x) ? 1 : 0, 0);
        Expect.due("4: left", x.removeLink(1), 2);
        Expect.due("4: the next one has moved up", x.link(1, 0), 2);
        Expect.due("4: the next one has moved up", x.link(1, 1), 3);
        Expect.due("4: the next one has moved up", x.link(1, 2), 3);
        Expect.due("4: the one before stays", x.link(0, 2), 1);
        Expect.due("4: entries", Nets.allNone(x) ? 1 : 0, 1);
        Expect.dueText("4: labels stay", Nets.labels(x), "1230");
        Expect.due("4: the last one", x.removeLink(1), 1);
        Expect.index("4: it is gone", () -> x.removeLink(1));
        x.undo();
        x.undo();
        Expect.due("4: undone", x.link(1, 2), 2);
        Expect.due("4: undone", x.size(true), 3);
    }

    private static void removeOfSixteen() {
        IntervalRouter x = Nets.full();
        int u = x.link(15, 0);
        int v = x.link(15, 1);
        int length = x.link(15, 2);
        Expect.due("4: of 16", x.removeLink(0), 15);
        Expect.due("4: the last one has moved up", x.link(14, 0), u);
        Expect.due("4: the last one has moved up", x.link(14, 1), v);
        Expect.due("4: the last one has moved up", x.link(14, 2), length);
        Expect.due("4: room again", x.addLink(0, 1, 1), 15);
        Expect.due("4: the last of 16", x.removeLink(15), 15);
    }

    private static void setLength() {
        IntervalRouter x = Nets.of("3;011;122");
        x.makeTables();
        Expect.index("5: link 2", () -> x.setLength(2, 0));
        Expect.index("5: link -1", () -> x.setLength(-1, 1));
        Expect.argument("5: length 0", () -> x.setLength(0, 0));
        Expect.argument("5: length 10", () -> x.setLength(0, 10));
        Expect.due("5: the refused calls kept the tables", Nets.allNone(x) ? 1 : 0, 0);
        Expect.due("5: the previous length", x.setLength(1, 9), 2);
        Expect.due("5: the new length", x.link(1, 2), 9);
        Expect.due("5: the distance", x.distance(0, 2), 10);
        Expect.due("5: entries", Nets.allNone(x) ? 1 : 0, 1);
        x.makeTables();
        Expect.due("5: the same length", x.setLength(1, 9), 9);
        Expect.due("5: entries, even then", Nets.allNone(x) ? 1 : 0, 1);
        x.undo();
        x.undo();
        x.undo();
        Expect.due("5: undone", x.distance(0, 2), 3);
    }

    private static void sizeAndLink() {
        IntervalRouter x = Nets.of("5;342;017");
        Expect.due("6: nodes", x.size(false), 5);
        Expect.due("6: links", x.size(true), 2);
        Expect.due("7: first", x.link(0, 0), 3);
        Expect.due("7: second", x.link(0, 1), 4);
        Expect.due("7: length", x.link(1, 2), 7);
        Expect.index("7: link 2", () -> x.link(2, 3));
        Expect.index("7: link -1", () -> x.link(-1, 0));
        Expect.argument("7: what 3", () -> x.link(1, 3));
        Expect.argument("7: what -1", () -> x.link(1, -1));
    }

    private static void distance() {
        IntervalRouter x = Nets.of("6;019;022;213;341;132");
        Expect.due("8: over a third node", x.distance(0, 1), 5);
        Expect.due("8: the other way", x.distance(1, 0), 5);
        Expect.due("8: four links", x.distance(0, 4), 8);
        Expect.due("8: the same", x.distance(3, 3), 0);
        Expect.due("8: no way", x.distance(0, 5), -1);
        Expect.due("8: alone", x.distance(5, 5), 0);
        Expect.index("8: node 6", () -> x.distance(0, 6));
        Expect.index("8: node -1", () -> x.distance(-1, 0));
        x.removeLink(4);
        Expect.due("8: no way any more", x.distance(0, 4), -1);
        x.undo();
        Expect.due("8: a way again", x.distance(0, 4), 8);
        IntervalRouter line = Nets.of("9;019;129;239;349;459;569;679;789");
        Expect.due("8: the longest one", line.distance(0, 8), 72);
    }

    private static void goodLinks() {
        IntervalRouter x = Nets.of("6;011;131;021;231;033;343;041");
        Expect.due("9: two of three", x.goodLinks(0, 3), 0b101);
        Expect.due("9: from the other end", x.goodLinks(3, 0), 0b1010);
        Expect.due("9: two ways around", x.goodLinks(3, 4), 0b101010);
        Expect.due("9: next to it", x.goodLinks(0, 4), 0b1000000);
        Expect.due("9: the same", x.goodLinks(0, 0), 0);
        Expect.due("9: no way", x.goodLinks(0, 5), 0);
        Expect.due("9: no way back", x.goodLinks(5, 0), 0);
        Expect.index("9: node 6", () -> x.goodLinks(6, 0));
        Expect.index("9: node -1", () -> x.goodLinks(0, -1));
        Expect.due("9: eight of eight", Nets.eightWays().goodLinks(0, 8), 0b11111111);
        Expect.due("9: eight of eight, from the other end", Nets.eightWays().goodLinks(8, 0), 0b111111110000000);
        IntervalRouter full = Nets.full();
        // 3 - 4 costs 8; over 0 it would be 9
        Expect.due("9: the last link", full.goodLinks(3, 4), 1 << 15);
    }

    private static void kind() {
        Expect.due("10: without nodes", new IntervalRouter().kind(), 0);
        Expect.due("10: a single node", Nets.of("1").kind(), 1);
        Expect.due("10: two nodes alone", Nets.of("2").kind(), 0);
        Expect.due("10: two nodes", Nets.of("2;011").kind(), 1);
        Expect.due("10: a tree", Nets.of("4;011;021;031").kind(), 1);
        Expect.due("10: a triangle", Nets.of("3;011;121;021").kind(), 2);
        Expect.due("10: n - 1 links, but not connected", Nets.of("4;011;121;021").kind(), 0);
        Expect.due("10: two triangles", Nets.of("6;011;121;021;341;451;351").kind(), 0);
        Expect.due("10: a ring of 9", Nets.of("9;011;121;231;341;451;561;671;781;801").kind(), 2);
        Expect.due("10: a triangle with a tail", Nets.of("4;011;121;021;231").kind(), 3);
        Expect.due("10: two triangles with a common node", Nets.of("5;011;121;201;031;341;401").kind(), 3);
        Expect.due("10: all joined", Nets.of("4;011;021;031;121;131;231").kind(), 3);
    }
}
