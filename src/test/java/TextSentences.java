/** The sentences of the promises 35 to 37; those of the network text itself are in DescriptionSentences. */
final class TextSentences {
    private static final Class<IllegalArgumentException> ARGUMENT = IllegalArgumentException.class;
    private static final Class<IllegalStateException> STATE = IllegalStateException.class;

    private TextSentences() {
    }

    static void tell(Sentences s) {
        s.promise(35);
        s.says("Appends a byte to the network text.", TextSentences::appends);
        s.says("value: the byte, 0 to 127", TextSentences::bytes);
        s.says("Returns the new length of the text.", TextSentences::newLength);
        s.says("Throws IllegalArgumentException if value is out of range", TextSentences::byteRefused);
        s.says("Throws IllegalStateException if the text has 100 bytes", TextSentences::fullText);
        s.promise(36);
        s.says("Empties the network text.", TextSentences::empties);
        s.says("Returns the length that it had.", TextSentences::lengthBefore);
        s.promise(37);
        s.says("Makes the network the one that the text describes,", TextSentences::describedNetwork);
        s.says("with the initial labels.", TextSentences::initialLabels);
        s.says("The text stays as it is.", TextSentences::textStays);
        s.says("Undoable, if there is no syntax error.", TextSentences::parseUndone);
        s.says("Returns the number of links;", TextSentences::numberOfLinks);
        s.says("-10 minus the syntax error position if there is a syntax error", TextSentences::errorPosition);
        s.says("(then nothing changes).", TextSentences::errorsChangeNothing);
    }

    private static void appends() {
        IntervalRouter x = new IntervalRouter();
        x.append('2');
        x.append(';');
        x.append('1');
        x.append('0');
        Expect.due("a byte is missing", x.parse(), -14);
        x.append('7');
        Expect.due("the bytes in their order", x.parse(), 1);
        Expect.due("first node", x.link(0, 0), 1);
        Expect.due("length", x.link(0, 2), 7);
        Expect.due("one parse() was saved, no append()", x.undo(), 0);
    }

    private static void bytes() {
        IntervalRouter x = new IntervalRouter();
        for (int value = 0; value <= 127; value++) {
            x.clearText();
            Expect.due("byte " + value, x.append(value), 1);
            boolean digit = value >= '0' && value <= '9';
            Expect.due("parse() of byte " + value, x.parse(), digit ? 0 : -10);
        }
    }

    private static void newLength() {
        IntervalRouter x = new IntervalRouter();
        for (int length = 1; length <= 100; length++) {
            Expect.due("the length", x.append(length % 128), length);
        }
        x.clearText();
        Expect.due("the length behind clearText()", x.append(0), 1);
    }

    private static void byteRefused() {
        Limits.refused("3;011", 0, 127, ARGUMENT, (x, value) -> x.append(value));
        Limits.refused("0", 0, 127, ARGUMENT, (x, value) -> x.append(value));
        IntervalRouter x = new IntervalRouter();
        x.append('3');
        Expect.argument("a byte with a sign", () -> x.append((byte) 0xb3));
        Expect.argument("256 more than a digit", () -> x.append(256 + '3'));
        Expect.due("the text is as it was", x.parse(), 0);
        Expect.due("its length", x.clearText(), 1);
    }

    private static void fullText() {
        IntervalRouter x = Nets.of(Nets.sixteen());
        Nets.lengthen(x, 65, 99);
        Expect.due("byte 100", x.append(';'), 100);
        Expect.refused("byte 101", x, STATE, () -> x.append(';'));
        Expect.refused("byte 101, the lowest", x, STATE, () -> x.append(0));
        Expect.refused("byte 101, the highest", x, STATE, () -> x.append(127));
        Expect.due("the length", x.clearText(), 100);
        Expect.due("room again", x.append('1'), 1);
    }

    private static void empties() {
        IntervalRouter x = Nets.of("3;011");
        x.clearText();
        Expect.due("no text", x.parse(), -10);
        Expect.due("the network stays", x.size(false), 3);
        x.append('4');
        Expect.due("another text", x.parse(), 0);
        Expect.due("nodes", x.size(false), 4);
        x.clearText();
        x.append('2');
        x.append(';');
        Expect.due("nothing is left behind the end", x.parse(), -12);
    }

    private static void lengthBefore() {
        IntervalRouter x = new IntervalRouter();
        Expect.due("no text", x.clearText(), 0);
        x.append('3');
        Expect.due("one byte", x.clearText(), 1);
        Expect.due("none any more", x.clearText(), 0);
        for (int i = 0; i < 100; i++) {
            x.append(0);
        }
        Expect.due("100 bytes", x.clearText(), 100);
    }

    private static void describedNetwork() {
        IntervalRouter x = Nets.of("9;011;121;231");
        x.makeTables();
        Nets.write(x, "5;439;012");
        x.parse();
        Expect.due("nodes", x.size(false), 5);
        Expect.due("links", x.size(true), 2);
        Expect.due("link 0", x.link(0, 0) * 100 + x.link(0, 1) * 10 + x.link(0, 2), 439);
        Expect.due("link 1", x.link(1, 0) * 100 + x.link(1, 1) * 10 + x.link(1, 2), 12);
        Expect.due("distance", x.distance(3, 4), 9);
        Expect.due("distance", x.distance(1, 2), -1);
        Expect.yes("that all entries are NONE", Nets.allNone(x));
        Nets.write(x, "0");
        x.parse();
        Expect.due("no nodes", x.size(false), 0);
        Expect.due("no links", x.size(true), 0);
    }

    private static void initialLabels() {
        IntervalRouter x = Nets.of("5;011");
        x.turn(2);
        x.parse();
        Expect.dueText("the same text again", Nets.labels(x), "01234");
        x.turn(2);
        Nets.write(x, "9");
        x.parse();
        Expect.dueText("more nodes", Nets.labels(x), "012345678");
    }

    private static void textStays() {
        IntervalRouter x = Nets.of("3;011;121");
        Expect.due("once more", x.parse(), 2);
        x.append(';');
        Expect.due("with an error", x.parse(), -20);
        Expect.due("the length", x.clearText(), 10);
        Nets.write(x, "3;0");
        x.parse();
        x.append('2');
        x.append('5');
        Expect.due("the error was mended", x.parse(), 1);
        Expect.due("the length", x.clearText(), 5);
    }

    private static void parseUndone() {
        Twins.undone("3;011;121", x -> {
            x.turn(1);
            x.makeTables();
        }, IntervalRouter::parse);
        Twins.undone("3;011;121", x -> { }, IntervalRouter::parse);
        IntervalRouter x = Nets.of("2;011");
        x.begin(4);
        x.append(';');
        x.parse();
        Expect.due("an error is not saved", x.undo(), 1);
        Expect.due("begin() is undone", x.size(false), 2);
    }

    private static void numberOfLinks() {
        Expect.due("none", parsed("9"), 0);
        Expect.due("none", parsed("0"), 0);
        Expect.due("one", parsed("2;011"), 1);
        Expect.due("three", parsed("3;011;121;021"), 3);
        Expect.due("sixteen", parsed(Nets.sixteen()), 16);
    }

    private static int parsed(String text) {
        IntervalRouter x = new IntervalRouter();
        Nets.write(x, text);
        return x.parse();
    }

    private static void errorPosition() {
        Expect.due("position 0", parsed(""), -10);
        Expect.due("position 0", parsed("?"), -10);
        Expect.due("position 1", parsed("3?"), -11);
        Expect.due("position 5", parsed("3;0111"), -15);
        Expect.due("position 66", parsed(Nets.sixteen() + ";"), -76);
        StringBuilder full = new StringBuilder("3");
        while (full.length() < 100) {
            full.append('3');
        }
        Expect.due("position 1 of 100", parsed(full.toString()), -11);
    }

    private static void errorsChangeNothing() {
        for (String text : new String[] {"", "x", "4;", "4;0", "4;01", "4;012;011", "4;012;23", "4;019x"}) {
            Twins.leaveNoTrace("4;011;121", x -> {
                x.turn(3);
                x.makeTables();
                Nets.write(x, text);
            }, x -> Expect.yes("the error in " + text, x.parse() <= -10));
        }
    }
}
