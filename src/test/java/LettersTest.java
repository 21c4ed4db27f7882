/** Promises 25 to 32. */
public final class LettersTest {
    /** A ring of 4 with one long link: 0 - 1 - 2 - 3 - 0 are the links 0 to 3. */
    private static final String RING = "4;011;121;231;305";

    public static void main(String[] args) {
        check();
        checked();
        send();
        wayNode();
        goingAround();
        arriving();
        stretch();
        load();
        lostWithout();
        Expect.end();
    }

    private static void check() {
        IntervalRouter x = Nets.of("5;011;121;231;305");
        x.turn(2);
        Expect.due("25: NONE", x.check(0, 1), 3);
        Expect.due("25: the same", x.check(4, 4), 0);
        Expect.due("25: no way", x.check(0, 4), 4);
        x.makeTables();
        Expect.due("25: good", x.check(0, 3), 1);
        x.setRange(0, 3, x.label(3), x.label(3));
        Expect.due("25: not good", x.check(0, 3), 2);
        x.setRange(0, 3, x.label(4), x.label(4));
        Expect.due("25: no way, whatever the entry is", x.check(0, 4), 4);
        Expect.due("25: back", x.check(4, 0), 4);
        Expect.index("25: node 5", () -> x.check(5, 0));
        Expect.index("25: node -1", () -> x.check(0, -1));
    }

    private static void checked() {
        IntervalRouter x = Nets.of("5;011;121;231;305");
        x.makeTables();
        x.setRange(0, 3, 3, 3);
        x.setRange(1, -1, 3, 3);
        Expect.due("26: the same", x.checked(0), 5);
        Expect.due("26: good", x.checked(1), 10);
        Expect.due("26: not good", x.checked(2), 1);
        Expect.due("26: NONE", x.checked(3), 1);
        Expect.due("26: no way", x.checked(4), 8);
        Expect.argument("26: -1", () -> x.checked(-1));
        Expect.argument("26: 5", () -> x.checked(5));
    }

    private static void send() {
        IntervalRouter x = Nets.of(RING);
        Expect.due("27: NONE", x.send(0, 1), -1);
        Expect.due("27: the same", x.send(2, 2), 0);
        x.makeTables();
        Expect.due("27: a shortest way", x.send(0, 3), 3);
        x.setRange(0, 3, 3, 3);
        Expect.due("27: a longer way", x.send(0, 3), 5);
        x.setRange(2, -1, 0, 0);
        Expect.due("27: it stops on the way", x.send(3, 0), -1);
        Expect.due("27: another one goes on", x.send(1, 0), 1);
        Expect.index("27: node 4", () -> x.send(4, 0));
        Expect.index("27: node -1", () -> x.send(0, -1));
        x.swapLabels(1, 3);
        x.makeTables();
        Expect.due("27: the label of the goal counts", x.send(0, 3), 3);
    }

    private static void wayNode() {
        IntervalRouter x = Nets.of(RING);
        x.turn(3);
        x.makeTables();
        Expect.due("28: place 0", x.wayNode(3, 0, 0), 3);
        Expect.due("28: place 1", x.wayNode(3, 0, 1), 2);
        Expect.due("28: place 2", x.wayNode(3, 0, 2), 1);
        Expect.due("28: place 3", x.wayNode(3, 0, 3), 0);
        Expect.due("28: place 4", x.wayNode(3, 0, 4), -1);
        Expect.due("28: far behind", x.wayNode(3, 0, Integer.MAX_VALUE), -1);
        Expect.due("28: the same", x.wayNode(1, 1, 0), 1);
        Expect.due("28: the same", x.wayNode(1, 1, 1), -1);
        x.setRange(2, -1, x.label(0), x.label(0));
        Expect.due("28: where it stops", x.wayNode(3, 0, 1), 2);
        Expect.due("28: behind the stop", x.wayNode(3, 0, 2), -1);
        Expect.index("28: node 4", () -> x.wayNode(0, 4, -1));
        Expect.index("28: node -1", () -> x.wayNode(-1, 0, 0));
        Expect.argument("28: place -1", () -> x.wayNode(0, 0, -1));
    }

    private static void goingAround() {
        IntervalRouter x = Nets.of("4;011;121;231");
        x.setRange(0, 0, 3, 3);
        x.setRange(1, 0, 3, 3);
        Expect.due("28: around", x.wayNode(0, 3, 3), 1);
        Expect.due("28: n + 1 nodes", x.wayNode(0, 3, 4), 0);
        Expect.due("28: no more", x.wayNode(0, 3, 5), -1);
        Expect.due("27: around", x.send(0, 3), -1);
        Expect.due("29: around", x.arriving(), 0);
        Expect.due("31: around", x.load(0), 0);
        // the way with the most nodes, n of them, arrives
        x.makeTables();
        Expect.due("27: all nodes", x.send(0, 3), 3);
    }

    private static void arriving() {
        IntervalRouter x = Nets.of("5;011;121;231;305");
        Expect.due("29: empty", x.arriving(), 0);
        Expect.due("29: without nodes", new IntervalRouter().arriving(), 0);
        x.makeTables();
        Expect.due("29: four of five are joined", x.arriving(), 12);
        x.setRange(1, -1, 3, 3);
        Expect.due("29: 0 and 1 do not come to 3", x.arriving(), 10);
        x.setRange(0, 3, 3, 3);
        Expect.due("29: 0 does again", x.arriving(), 11);
    }

    private static void stretch() {
        IntervalRouter x = Nets.of(RING);
        Expect.dueDouble("30: empty", x.stretch(), 0.0);
        x.makeTables();
        Expect.dueDouble("30: shortest ways", x.stretch(), 1.0);
        x.setRange(0, 3, 3, 3);
        Expect.dueDouble("30: 5 / 3", x.stretch(), 5.0 / 3.0);
        // 0 3 2: 6 instead of 2
        x.setRange(0, 3, 2, 3);
        Expect.dueDouble("30: 6 / 2", x.stretch(), 3.0);
        x.setRange(0, 3, 1, 3);
        Expect.dueDouble("30: 7 / 1", x.stretch(), 7.0);
        x.setRange(3, 3, 1, 1);
        Expect.dueDouble("30: what goes around does not count", x.stretch(), 3.0);
        Expect.dueDouble("30: a single node", Nets.of("1").stretch(), 0.0);
    }

    private static void load() {
        IntervalRouter x = Nets.of(RING);
        Expect.due("31: empty", x.load(0), 0);
        x.makeTables();
        Expect.due("31: the long link", x.load(3), 0);
        Expect.due("31: an end of the line", x.load(0), 6);
        Expect.due("31: the middle of the line", x.load(1), 8);
        x.setRange(2, -1, 3, 3);
        Expect.due("31: what does not arrive does not count", x.load(0), 5);
        Expect.index("31: link 4", () -> x.load(4));
        Expect.index("31: link -1", () -> x.load(-1));
        // the letter from 0 to 2 goes over link 0 alone, the one from 1 to 2 over 0 and then over 3 and 2
        IntervalRouter y = Nets.of(RING);
        y.setRange(1, 0, 2, 2);
        y.setRange(0, 3, 2, 2);
        y.setRange(3, 2, 2, 2);
        Expect.due("31: three letters", y.load(2), 3);
        Expect.due("31: two letters", y.load(3), 2);
        Expect.due("31: one letter", y.load(0), 1);
    }

    private static void lostWithout() {
        IntervalRouter line = Nets.of("4;011;121;231");
        line.makeTables();
        // without link 0 all letters from and to node 0 are lost
        Expect.due("32: an end of a line", line.lostWithout(0), 6);
        Expect.due("32: the middle of a line", line.lostWithout(1), 8);
        IntervalRouter x = Nets.of("3;011;121;021");
        x.makeTables();
        // from 0 to 1 and back there is the way over 2
        Expect.due("32: a triangle", x.lostWithout(0), 0);
        x.setRange(2, -1, 1, 1);
        // now the letter from 0 to 1 stops at 2; that from 2 to 1 does not arrive anyway
        Expect.due("32: a stop on the other way", x.lostWithout(0), 1);
        x.setRange(0, -1, 0, 2);
        // the letter from 2 to 0 goes over 1; those of node 0 do not arrive anyway
        Expect.due("32: what does not arrive now is not lost", x.lostWithout(2), 0);
        Expect.index("32: link 3", () -> x.lostWithout(3));
        Expect.index("32: link -1", () -> x.lostWithout(-1));
        Expect.due("32: empty tables", Nets.of("2;011").lostWithout(0), 0);
        // node 0 has the links 0 (to 3, a dead end that sends back), 1 (to 1) and 2 (to 2); its other link with the
        // lowest number is 0, so the letters from 0 and 3 to 1 go around, although they would arrive over link 2;
        // those from 1 to 0 and 3 go over 2
        IntervalRouter y = Nets.of("4;031;011;021;121");
        y.makeTables();
        Expect.due("32: the lowest other link", y.lostWithout(1), 2);
        // if link 0 is not one of node 0, the lowest other one is 2
        IntervalRouter z = Nets.of("3;121;011;021");
        z.makeTables();
        Expect.due("32: no dead end", z.lostWithout(1), 0);
    }
}
