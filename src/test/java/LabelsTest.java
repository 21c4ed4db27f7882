/** Promises 11 to 16. */
public final class LabelsTest {
    public static void main(String[] args) {
        labelAndNode();
        depthFirst();
        rank();
        initialAndBest();
        setLabelsWrong();
        swapLabels();
        turn();
        shuffle();
        Expect.end();
    }

    private static void labelAndNode() {
        IntervalRouter x = Nets.of("4;011");
        x.swapLabels(1, 3);
        Expect.due("11: label", x.label(3), 1);
        Expect.due("11: label", x.label(0), 0);
        Expect.index("11: node 4", () -> x.label(4));
        Expect.index("11: node -1", () -> x.label(-1));
        Expect.due("12: node", x.nodeWith(1), 3);
        Expect.due("12: node", x.nodeWith(3), 1);
        Expect.index("12: label 4", () -> x.nodeWith(4));
        Expect.index("12: label -1", () -> x.nodeWith(-1));
        Expect.index("12: no nodes", () -> new IntervalRouter().nodeWith(0));
    }

    private static void depthFirst() {
        // node 0 goes to 3 first (link 0), from there to 1 (link 2), back, then to 2 (link 4); 4 and 5 are apart
        IntervalRouter x = Nets.of("6;031;021;131;451;231");
        x.makeTables();
        Expect.due("13: depth first from 0", x.setLabels(1, 0), 5);
        Expect.dueText("13: depth first from 0", Nets.labels(x), "023145");
        Expect.due("13: entries", Nets.allNone(x) ? 1 : 0, 1);
        Expect.due("13: depth first from 5", x.setLabels(1, 5), 0);
        Expect.dueText("13: depth first from 5", Nets.labels(x), "234510");
        // a visited node is not entered again, but what hangs at an earlier node is found on the way back
        IntervalRouter y = Nets.of("7;011;121;231;201;341;151;061");
        y.setLabels(1, 0);
        Expect.dueText("13: back", Nets.labels(y), "0123456");
        y.setLabels(1, 3);
        // 3 to 2 (link 2), 1 (link 1), 0 (link 0), 6 (link 6), back to 1, to 5 (link 5), back to 3, to 4
        Expect.dueText("13: from 3", Nets.labels(y), "3210654");
    }

    private static void rank() {
        IntervalRouter x = Nets.of("7;015;022;121;341;451");
        x.makeTables();
        Expect.due("13: rank from 0", x.setLabels(2, 0), 6);
        // distances 0 3 2 - - - -
        Expect.dueText("13: rank from 0", Nets.labels(x), "0213456");
        Expect.due("13: entries", Nets.allNone(x) ? 1 : 0, 1);
        Expect.due("13: rank from 4", x.setLabels(2, 4), 6);
        // distances - - - 1 0 1 -
        Expect.dueText("13: rank from 4", Nets.labels(x), "3451026");
    }

    private static void initialAndBest() {
        IntervalRouter x = Nets.of("3;011;121");
        x.shuffle(7);
        x.makeTables();
        Expect.due("13: initial", x.setLabels(0, 2), 2);
        Expect.dueText("13: initial", Nets.labels(x), "012");
        Expect.due("13: entries", Nets.allNone(x) ? 1 : 0, 1);
        x.makeTables();
        x.setLabels(0, 0);
        Expect.due("13: entries, even if the labels stay", Nets.allNone(x) ? 1 : 0, 1);
        x.undo();
        Expect.due("13: undone", Nets.allNone(x) ? 1 : 0, 0);
        // 1 - 3 - 0 - 2 - 4: with the initial labels the node 0 in the middle has two runs a link
        IntervalRouter y = Nets.of("5;131;301;021;241");
        y.makeTables();
        Expect.due("13: not the best", y.compactness(), 2);
        y.setLabels(3, 4);
        y.makeTables();
        Expect.due("13: the best", y.compactness(), 1);
        Expect.dueText("13: the best, lexicographically first", Nets.labels(y), "01243");
        y.undo();
        y.undo();
        Expect.dueText("13: undone", Nets.labels(y), "01234");
    }

    private static void setLabelsWrong() {
        IntervalRouter x = new IntervalRouter();
        Expect.argument("13: rule 4 without nodes", () -> x.setLabels(4, 0));
        Expect.index("13: no nodes", () -> x.setLabels(0, 0));
        x.begin(7);
        Expect.argument("13: rule -1", () -> x.setLabels(-1, 9));
        Expect.index("13: node 7", () -> x.setLabels(3, 7));
        Expect.index("13: node -1", () -> x.setLabels(0, -1));
        Expect.state("13: the best of 7", () -> x.setLabels(3, 0));
        Expect.due("13: nothing was saved", x.undo(), 0);
        x.begin(6);
        Expect.due("13: the best of 6", x.setLabels(3, 0), 5);
        Expect.index("13: r must be a node with rule 3, too", () -> x.setLabels(3, 6));
    }

    private static void swapLabels() {
        IntervalRouter x = Nets.of("4;011;121");
        x.turn(1);
        x.makeTables();
        Expect.index("14: node 4", () -> x.swapLabels(0, 4));
        Expect.index("14: node -1", () -> x.swapLabels(-1, 0));
        Expect.due("14: entries stay", Nets.allNone(x) ? 1 : 0, 0);
        Expect.due("14: the new label of u", x.swapLabels(0, 3), 0);
        Expect.dueText("14: labels", Nets.labels(x), "0231");
        Expect.due("14: entries", Nets.allNone(x) ? 1 : 0, 1);
        x.makeTables();
        Expect.due("14: the same node", x.swapLabels(2, 2), 3);
        Expect.due("14: entries, even then", Nets.allNone(x) ? 1 : 0, 1);
        x.undo();
        x.undo();
        x.undo();
        Expect.dueText("14: undone", Nets.labels(x), "1230");
    }

    private static void turn() {
        IntervalRouter x = Nets.of("4;011;121");
        x.makeTables();
        Expect.argument("15: by -1", () -> x.turn(-1));
        Expect.argument("15: by 10", () -> x.turn(10));
        Expect.argument("15: by 10 without nodes", () -> new IntervalRouter().turn(10));
        Expect.state("15: without nodes", () -> new IntervalRouter().turn(9));
        Expect.due("15: entries stay", Nets.allNone(x) ? 1 : 0, 0);
        Expect.due("15: by 0", x.turn(0), 0);
        Expect.due("15: entries, even by 0", Nets.allNone(x) ? 1 : 0, 1);
        Expect.due("15: by 9", x.turn(9), 1);
        Expect.dueText("15: labels", Nets.labels(x), "1230");
        x.undo();
        Expect.dueText("15: undone", Nets.labels(x), "0123");
        IntervalRouter one = Nets.of("1");
        Expect.due("15: one node", one.turn(9), 0);
    }

    private static void shuffle() {
        IntervalRouter x = Nets.of("9;011");
        x.turn(4);
        x.makeTables();
        Expect.argument("16: seed -1", () -> x.shuffle(-1));
        Expect.argument("16: seed 1000000", () -> x.shuffle(1000000));
        Expect.due("16: entries stay", Nets.allNone(x) ? 1 : 0, 0);
        Expect.due("16: seed 3", x.shuffle(3), 4);
        Expect.dueText("16: it starts from the initial labels", Nets.labels(x), "417062538");
        Expect.due("16: entries", Nets.allNone(x) ? 1 : 0, 1);
        x.shuffle(999999);
        x.undo();
        Expect.dueText("16: undone", Nets.labels(x), "417062538");
        // seed 0: s = 12345, s / 65536 = 0, so the labels of 1 and 0 are exchanged
        IntervalRouter two = Nets.of("2");
        Expect.due("16: seed 0", two.shuffle(0), 1);
        IntervalRouter none = new IntervalRouter();
        Expect.due("16: without nodes", none.shuffle(0), -1);
        Expect.due("16: saved without nodes, too", none.undo(), 0);
        Expect.due("16: one node", Nets.of("1").shuffle(77), 0);
    }
}
