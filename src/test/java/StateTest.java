/** Promises 38 and 39. */
public final class StateTest {
    public static void main(String[] args) {
        undo();
        fourStates();
        notUndoable();
        refusedCallsSaveNothing();
        undoBringsAllBack();
        digest();
        digestByHand();
        Expect.end();
    }

    private static void undo() {
        IntervalRouter x = new IntervalRouter();
        Expect.state("38: nothing saved", x::undo);
        x.begin(3);
        x.begin(3);
        Expect.due("38: one remains", x.undo(), 1);
        Expect.due("38: none remains", x.undo(), 0);
        Expect.due("38: the first state", x.size(false), 0);
        Expect.state("38: nothing saved", x::undo);
    }

    private static void fourStates() {
        IntervalRouter x = new IntervalRouter();
        for (int nodes = 1; nodes <= 9; nodes++) {
            x.begin(nodes);
        }
        for (int left = 3; left >= 0; left--) {
            Expect.due("38: remaining", x.undo(), left);
            Expect.due("38: the nodes then", x.size(false), 5 + left);
        }
        Expect.state("38: the oldest ones are dropped", x::undo);
        x.begin(2);
        Expect.due("38: it goes on", x.undo(), 0);
        Expect.due("38: it goes on", x.size(false), 5);
    }

    private static int savedStates(IntervalRouter x) {
        int before = 0;
        for (int i = 0; i < 5; i++) {
            try {
                x.undo();
                before++;
            } catch (IllegalStateException e) {
                return before;
            }
        }
        return before;
    }

    private static void notUndoable() {
        IntervalRouter x = Nets.of("3;011;121");
        x.size(true);
        x.link(0, 0);
        x.distance(0, 1);
        x.goodLinks(0, 1);
        x.kind();
        x.label(0);
        x.nodeWith(0);
        x.entry(0, 0);
        x.runs(0, 0);
        x.tableSize(0);
        x.compactness();
        x.bestSize(0);
        x.check(0, 1);
        x.checked(0);
        x.send(0, 1);
        x.wayNode(0, 1, 0);
        x.arriving();
        x.stretch();
        x.load(0);
        x.lostWithout(0);
        x.bestCompactness();
        x.labelings(1);
        x.append(';');
        x.parse();
        x.clearText();
        x.digest();
        Expect.due("38: only parse() was saved, once", savedStates(x), 1);
    }

    private static void refusedCallsSaveNothing() {
        IntervalRouter x = new IntervalRouter();
        Expect.argument("38: begin", () -> x.begin(10));
        Expect.index("38: addLink", () -> x.addLink(0, 1, 1));
        Expect.index("38: removeLink", () -> x.removeLink(0));
        Expect.index("38: setLength", () -> x.setLength(0, 1));
        Expect.index("38: setLabels", () -> x.setLabels(0, 0));
        Expect.index("38: swapLabels", () -> x.swapLabels(0, 0));
        Expect.state("38: turn", () -> x.turn(0));
        Expect.argument("38: shuffle", () -> x.shuffle(-1));
        Expect.index("38: setRange", () -> x.setRange(0, -1, 0, 0));
        Expect.due("38: parse", x.parse(), -10);
        Expect.due("38: nothing is saved", savedStates(x), 0);
    }

    private static void undoBringsAllBack() {
        IntervalRouter x = Nets.of("5;011;122;233;344");
        x.shuffle(9);
        x.makeTables();
        x.setRange(2, 1, 0, 4);
        for (int what = 0; what < 10; what++) {
            // the number of saved states is a part of the digest, so it is taken at the same number
            x.setRange(2, 1, 0, 4);
            x.setRange(2, 1, 0, 4);
            x.setRange(2, 1, 0, 4);
            long before = x.digest();
            change(x, what);
            Expect.due("38: change " + what + " is seen", x.digest() == before && what != 9 ? 1 : 0, 0);
            Expect.due("38: three remain after change " + what, x.undo(), 3);
            x.setRange(2, 1, 0, 4);
            Expect.due("38: all is back after change " + what, x.digest(), before);
            Expect.due("38: the ways are back after change " + what, x.distance(0, 4), 10);
        }
    }

    private static void change(IntervalRouter x, int what) {
        switch (what) {
            case 0: x.begin(2); break;
            case 1: x.addLink(4, 0, 1); break;
            case 2: x.removeLink(2); break;
            case 3: x.setLength(3, 9); break;
            case 4: x.setLabels(1, 3); break;
            case 5: x.swapLabels(0, 1); break;
            case 6: x.turn(2); break;
            case 7: x.shuffle(1); break;
            case 8: x.makeTables(); break;
            default: x.setRange(2, 1, 0, 4); break;
        }
    }

    private static void digest() {
        IntervalRouter x = Nets.of("3;011;121");
        long first = x.digest();
        Expect.due("39: the same again", x.digest(), first);
        x.append(';');
        Expect.due("39: the length of the text counts", x.digest() == first ? 1 : 0, 0);
        x.clearText();
        Nets.write(x, "aaaaaaaaa");
        Expect.due("39: only its length counts", x.digest(), first);
        x.setLabels(0, 0);
        Expect.due("39: the saved states count", x.digest() == first ? 1 : 0, 0);
    }

    private static void digestByHand() {
        IntervalRouter x = Nets.of("3;012");
        x.swapLabels(0, 1);
        x.setRange(0, 0, 0, 2);
        long[] values = {
            5, 3, 1, 0, 1, 2, 1, 0, 2,
            0, -1, 0, -1, -1, -1, -1, -1, -1,
            1, 1, 3, 1, 0, 1, 4, 1, 3
        };
        long h = 3083;
        for (long value : values) {
            h = 31 * h + value;
        }
        Expect.due("39: by hand", x.digest(), h);
    }
}
