/** Promises 35 to 37. */
public final class TextTest {
    public static void main(String[] args) {
        append();
        parse();
        errors();
        seventeenLinks();
        noLinkPossible();
        Expect.end();
    }

    private static void append() {
        IntervalRouter x = new IntervalRouter();
        Expect.due("35: 0", x.append(0), 1);
        Expect.due("35: 127", x.append(127), 2);
        Expect.argument("35: -1", () -> x.append(-1));
        Expect.argument("35: 128", () -> x.append(128));
        Expect.due("36: the length", x.clearText(), 2);
        Expect.due("36: empty", x.clearText(), 0);
        for (int i = 1; i <= 100; i++) {
            Expect.due("35: the length", x.append('1'), i);
        }
        Expect.state("35: the 101st", () -> x.append('1'));
        Expect.argument("35: the value comes first", () -> x.append(128));
        Expect.state("35: it is not undoable", x::undo);
        Expect.due("36: the length", x.clearText(), 100);
        Expect.due("35: room again", x.append('1'), 1);
    }

    private static void parse() {
        IntervalRouter x = new IntervalRouter();
        x.begin(2);
        x.addLink(0, 1, 3);
        x.turn(1);
        x.makeTables();
        Nets.write(x, "3;205;011");
        Expect.due("37: links", x.parse(), 2);
        Expect.due("37: nodes", x.size(false), 3);
        Expect.due("37: told first", x.link(0, 0), 2);
        Expect.due("37: told second", x.link(0, 1), 0);
        Expect.due("37: length", x.link(0, 2), 5);
        Expect.dueText("37: labels", Nets.labels(x), "012");
        Expect.due("37: entries", Nets.allNone(x) ? 1 : 0, 1);
        Expect.due("37: distance", x.distance(1, 2), 6);
        x.makeTables();
        Expect.due("37: the text stays", x.parse(), 2);
        Expect.due("37: entries, even then", Nets.allNone(x) ? 1 : 0, 1);
        x.undo();
        x.undo();
        x.undo();
        Expect.due("37: undone", x.size(false), 2);
        Expect.due("37: undone", x.link(0, 2), 3);
        Expect.dueText("37: undone", Nets.labels(x), "10");
        Expect.dueText("37: undone", Nets.table(x, 0), "0.");
        Expect.due("37: undo leaves the text", x.clearText(), 9);
        Nets.write(x, "9");
        Expect.due("37: no links", x.parse(), 0);
        Expect.due("37: 9 nodes", x.size(false), 9);
        Nets.write(x, "0");
        Expect.due("37: no nodes", x.parse(), 0);
        Expect.due("37: no nodes", x.size(false), 0);
        Nets.write(x, "9;789");
        Expect.due("37: the highest digits", x.parse(), 1);
        Expect.due("37: the highest digits", x.distance(8, 7), 9);
    }

    private static void errorAt(String text, int position) {
        IntervalRouter x = Nets.of("3;011");
        x.makeTables();
        Nets.write(x, text);
        long before = x.digest();
        Expect.due("37: " + text, x.parse(), -10 - position);
        Expect.due("37: nothing changes by " + text, x.digest(), before);
    }

    private static void errors() {
        errorAt("", 0);
        errorAt("a", 0);
        errorAt(";", 0);
        errorAt("/", 0);
        errorAt(":", 0);
        errorAt(" 3", 0);
        errorAt("33", 1);
        errorAt("3:", 1);
        errorAt("3 ;011", 1);
        errorAt("3;", 2);
        errorAt("3;;", 2);
        errorAt("3;3", 2);
        errorAt("3;312", 2);
        errorAt("3;0", 3);
        errorAt("3;0x", 3);
        errorAt("3;00", 3);
        errorAt("3;03", 3);
        errorAt("3;01", 4);
        errorAt("3;010", 4);
        errorAt("3;01;", 4);
        errorAt("3;0110", 5);
        errorAt("3;011;01", 7);
        errorAt("3;011;10", 7);
        errorAt("3;011;021;2", 11);
        errorAt("3;011;021;23", 11);
        errorAt("3;011;", 6);
        errorAt("3;011;121 ", 9);
        errorAt("3" + (char) 0, 1);
        errorAt("" + (char) 127, 0);
    }

    private static void seventeenLinks() {
        Expect.due("37: 16 links", Nets.of(Nets.sixteen()).size(true), 16);
        errorAt(Nets.sixteen() + ";", 66);
        errorAt(Nets.sixteen() + ";2", 66);
        errorAt(Nets.sixteen() + ";241", 66);
        errorAt(Nets.sixteen() + ";9", 66);
        errorAt(Nets.sixteen() + ":", 65);
        IntervalRouter x = Nets.of("1");
        Nets.write(x, Nets.sixteen() + ";241;251;261;271;281;341;351;36");
        Nets.lengthen(x, 96, 100);
        Expect.due("37: a full text", x.parse(), -76);
    }

    private static void noLinkPossible() {
        errorAt("0;", 2);
        errorAt("0;0", 2);
        errorAt("1;", 2);
        errorAt("1;0", 3);
        errorAt("1;00", 3);
        errorAt("1;1", 2);
        errorAt("2;011;", 6);
        errorAt("2;011;0", 7);
        errorAt("2;011;01", 7);
        errorAt("2;011;1", 7);
        errorAt("2;011;2", 6);
    }
}
