/** The sentences of the promises 25 to 32. */
final class LetterSentences {
    private static final Class<IndexOutOfBoundsException> INDEX = IndexOutOfBoundsException.class;
    private static final Class<IllegalArgumentException> ARGUMENT = IllegalArgumentException.class;

    private static final String LINE = "4;011;121;231";

    /** 0 - 1 - 2 - 3 with the lengths 1, and the link 3 from 3 to 0 with the length 5; node 4 is apart. */
    private static final String RING = "5;011;121;231;305";

    private LetterSentences() {
    }

    static void tell(Sentences s) {
        checks(s);
        send(s);
        wayNode(s);
        arrivingAndStretch(s);
        load(s);
        lostWithout(s);
    }

    private static void checks(Sentences s) {
        s.promise(25);
        s.says("Checks the entry of a node for another one.", LetterSentences::checksTheEntry);
        s.says("v: a node", LetterSentences::checkFirst);
        s.says("w: a node", LetterSentences::checkSecond);
        s.says("Returns 0 if both are the same,", LetterSentences::checkOfTheSame);
        s.says("1 if the entry is a good link,", LetterSentences::checkGood);
        s.says("2 if it is a link that is not good,", LetterSentences::checkNotGood);
        s.says("3 if it is NONE although there is a way,", LetterSentences::checkNone);
        s.says("4 if there is no way (whatever the entry is).", LetterSentences::checkNoWay);
        s.says("Throws IndexOutOfBoundsException if there is no such node", LetterSentences::checkRefused);
        s.promise(26);
        s.says("Counts the ordered pairs of nodes for which check() returns a value.", LetterSentences::checkedPairs);
        s.says("result: 0 to 4", LetterSentences::checkedRange);
        s.says("Returns their number.", LetterSentences::checkedAnswer);
        s.says("Throws IllegalArgumentException if result is out of range", LetterSentences::checkedRefused);
    }

    private static void send(Sentences s) {
        s.promise(27);
        s.leads("Returns the length of the way that a letter takes.");
        s.says("v: a node", LetterSentences::sendFirst);
        s.says("w: a node", LetterSentences::sendSecond);
        s.says("Returns the sum of the lengths of the links over which it is sent,", LetterSentences::sendAnswer);
        s.says("0 if v equals w;", LetterSentences::sendToTheSame);
        s.says("NONE if it does not arrive.", LetterSentences::sendNone);
        s.says("Throws IndexOutOfBoundsException if there is no such node", LetterSentences::sendRefused);
    }

    private static void wayNode(Sentences s) {
        s.promise(28);
        s.says("Returns a node on the way of a letter.", LetterSentences::nodesOnTheWay);
        s.says("v: a node", LetterSentences::wayNodeFirst);
        s.says("w: a node", LetterSentences::wayNodeSecond);
        s.says("place: place on the way, from 0 (v itself)", LetterSentences::placeZero);
        s.says("Returns the node; NONE if the way has not so many nodes", LetterSentences::wayHasNotSoMany);
        s.says("(a letter that goes around has n + 1).", LetterSentences::wayAround);
        s.says("Throws IndexOutOfBoundsException if there is no such node", LetterSentences::wayNodeRefused);
        s.says("Throws IllegalArgumentException if place is negative", LetterSentences::placeNegative);
    }

    private static void arrivingAndStretch(Sentences s) {
        s.promise(29);
        s.says("Counts the ordered pairs of different nodes between which letters arrive.",
                LetterSentences::arrivingPairs);
        s.says("Returns their number.", LetterSentences::arrivingAnswer);
        s.promise(30);
        s.says("Returns the greatest stretch: the length of the way that a letter takes, divided by the distance,",
                LetterSentences::greatestStretch);
        s.says("over all ordered pairs of different nodes between which letters arrive.",
                LetterSentences::stretchOfArriving);
        s.says("Returns the greatest one of these quotients, each computed with both numbers converted to double;",
                LetterSentences::stretchAsDouble);
        s.says("0.0 if there are none.", LetterSentences::noStretch);
    }

    private static void load(Sentences s) {
        s.promise(31);
        s.says("Returns the load of a link: the number of ordered pairs of different nodes whose letters arrive",
                LetterSentences::loadOfArriving);
        s.says("and are sent over it.", LetterSentences::loadOverIt);
        s.says("link: number of a link", LetterSentences::loadRange);
        s.leads("Returns that number");
        s.says("(a letter that is sent over it several times counts once).", LetterSentences::loadCountsOnce);
        s.says("Throws IndexOutOfBoundsException if there is no such link", LetterSentences::loadRefused);
    }

    private static void lostWithout(Sentences s) {
        s.promise(32);
        s.says("Counts the ordered pairs of different nodes whose letters arrive now,",
                LetterSentences::lostArriveNow);
        s.says("but would not arrive if a link were broken,", LetterSentences::lostIfBroken);
        s.says("and each node whose entry for a letter is this link sent the letter over its other link with the "
                + "lowest number", LetterSentences::otherLinkWithTheLowestNumber);
        s.says("(a letter stops where there is no other link).", LetterSentences::noOtherLink);
        s.says("link: number of a link", LetterSentences::lostRange);
        s.says("Returns their number.", LetterSentences::lostAnswer);
        s.says("Throws IndexOutOfBoundsException if there is no such link", LetterSentences::lostRefused);
    }

    private static IntervalRouter withTables(String net) {
        IntervalRouter x = Nets.of(net);
        x.makeTables();
        return x;
    }

    /** Node v gets a link for the label of w. */
    private static void direct(IntervalRouter x, int v, int w, int link) {
        int label = x.label(w);
        x.setRange(v, link, label, label);
    }

    // ---- 25 and 26

    private static void checksTheEntry() {
        IntervalRouter x = Nets.of(LINE);
        x.turn(1);
        // label 1 is node 0: node 2 gets an entry for it, none for node 1, which has label 2
        x.setRange(2, 1, 1, 1);
        Expect.due("for node 0", x.check(2, 0), 1);
        Expect.due("for node 1", x.check(2, 1), 3);
        Expect.due("of node 0 for node 2", x.check(0, 2), 3);
    }

    private static void checkFirst() {
        Limits.hold("9;011", 0, 8, INDEX, (x, v) -> x.check(v, 0));
    }

    private static void checkSecond() {
        Limits.hold("9;011", 0, 8, INDEX, (x, w) -> x.check(0, w));
    }

    private static void checkOfTheSame() {
        IntervalRouter x = withTables(RING);
        for (int v = 0; v < 5; v++) {
            Expect.due("node " + v, x.check(v, v), 0);
        }
    }

    private static void checkGood() {
        // both links of node 0 are good for node 2
        IntervalRouter x = Nets.of("4;011;121;231;301");
        direct(x, 0, 2, 0);
        Expect.due("one way", x.check(0, 2), 1);
        direct(x, 0, 2, 3);
        Expect.due("the other way", x.check(0, 2), 1);
        IntervalRouter last = withTables(Nets.SIXTEEN_OF_SEVEN);
        Expect.due("the last link", last.check(3, 4), 1);
    }

    private static void checkNotGood() {
        IntervalRouter x = Nets.of(RING);
        direct(x, 0, 3, 3);
        Expect.due("the long link", x.check(0, 3), 2);
        Expect.due("by which the letter arrives", x.send(0, 3), 5);
        direct(x, 1, 3, 0);
        Expect.due("away", x.check(1, 3), 2);
    }

    private static void checkNone() {
        IntervalRouter x = Nets.of(RING);
        Expect.due("no tables", x.check(0, 3), 3);
        x.makeTables();
        direct(x, 0, 3, -1);
        Expect.due("one entry is NONE", x.check(0, 3), 3);
        Expect.due("the way back is not", x.check(3, 0), 1);
    }

    private static void checkNoWay() {
        IntervalRouter x = Nets.of(RING);
        Expect.due("NONE", x.check(0, 4), 4);
        Expect.due("NONE", x.check(4, 0), 4);
        direct(x, 0, 4, 3);
        Expect.due("a link", x.check(0, 4), 4);
        IntervalRouter two = Nets.of("2");
        Expect.due("without links", two.check(0, 1), 4);
    }

    private static void checkRefused() {
        Limits.refused(LINE, 0, 3, INDEX, (x, v) -> x.check(v, 3));
        Limits.refused(LINE, 0, 3, INDEX, (x, w) -> x.check(3, w));
        Limits.refused(LINE, 0, 3, INDEX, (x, both) -> x.check(both, both));
        Limits.refused("0", 0, -1, INDEX, (x, both) -> x.check(both, both));
    }

    private static void checkedPairs() {
        IntervalRouter x = withTables(RING);
        direct(x, 0, 3, 3);
        direct(x, 1, 3, -1);
        direct(x, 2, 3, -1);
        int[] due = {5, 9, 1, 2, 8};
        for (int result = 0; result <= 4; result++) {
            Expect.due("result " + result, x.checked(result), due[result]);
        }
    }

    private static void checkedRange() {
        Limits.taken(LINE, 0, 4, (x, result) -> x.checked(result));
        Limits.taken("0", 0, 4, (x, result) -> x.checked(result));
    }

    private static void checkedAnswer() {
        IntervalRouter none = new IntervalRouter();
        for (int result = 0; result <= 4; result++) {
            Expect.due("without nodes", none.checked(result), 0);
        }
        IntervalRouter nine = Nets.of("9");
        Expect.due("the same, 9 nodes", nine.checked(0), 9);
        Expect.due("no way, 9 nodes", nine.checked(4), 72);
        Expect.due("a single node", Nets.of("1").checked(0), 1);
        Expect.due("good", withTables(LINE).checked(1), 12);
        Expect.due("NONE", Nets.of(LINE).checked(3), 12);
    }

    private static void checkedRefused() {
        Limits.refused(LINE, 0, 4, ARGUMENT, (x, result) -> x.checked(result));
        Limits.refused("0", 0, 4, ARGUMENT, (x, result) -> x.checked(result));
    }

    // ---- 27

    private static void sendFirst() {
        Limits.hold("9;011", 0, 8, INDEX, (x, v) -> x.send(v, 0));
    }

    private static void sendSecond() {
        Limits.hold("9;011", 0, 8, INDEX, (x, w) -> x.send(0, w));
    }

    private static void sendAnswer() {
        IntervalRouter x = withTables("4;012;123;234;309");
        Expect.due("one link", x.send(0, 1), 2);
        Expect.due("two links", x.send(0, 2), 5);
        Expect.due("both ways are 9", x.send(0, 3), 9);
        Expect.due("the other way", x.send(2, 0), 5);
        direct(x, 0, 1, 3);
        direct(x, 3, 1, 2);
        Expect.due("a long way", x.send(0, 1), 16);
        IntervalRouter line = withTables("9;019;129;239;349;459;569;679;789");
        Expect.due("the longest one", line.send(0, 8), 72);
    }

    private static void sendToTheSame() {
        IntervalRouter x = Nets.of(RING);
        for (int v = 0; v < 5; v++) {
            Expect.due("without tables", x.send(v, v), 0);
        }
        x.makeTables();
        for (int v = 0; v < 5; v++) {
            Expect.due("with tables", x.send(v, v), 0);
        }
    }

    private static void sendNone() {
        IntervalRouter x = Nets.of(RING);
        Expect.due("no tables", x.send(0, 1), -1);
        x.makeTables();
        Expect.due("no way", x.send(0, 4), -1);
        Expect.due("no way", x.send(4, 0), -1);
        direct(x, 2, 3, -1);
        Expect.due("it stops", x.send(0, 3), -1);
        direct(x, 2, 3, 1);
        Expect.due("it goes around", x.send(0, 3), -1);
        direct(x, 0, 4, 0);
        direct(x, 1, 4, 0);
        Expect.due("it goes around where no way is", x.send(0, 4), -1);
    }

    private static void sendRefused() {
        Limits.refused(LINE, 0, 3, INDEX, (x, v) -> x.send(v, 3));
        Limits.refused(LINE, 0, 3, INDEX, (x, w) -> x.send(3, w));
        Limits.refused(LINE, 0, 3, INDEX, (x, both) -> x.send(both, both));
        Limits.refused("0", 0, -1, INDEX, (x, both) -> x.send(both, both));
    }

    // ---- 28

    private static void nodesOnTheWay() {
        IntervalRouter x = Nets.of("4;021;211;131");
        x.turn(2);
        x.makeTables();
        int[] way = {0, 2, 1, 3};
        for (int place = 0; place < 4; place++) {
            Expect.due("from 0 to 3, place " + place, x.wayNode(0, 3, place), way[place]);
            Expect.due("from 3 to 0, place " + place, x.wayNode(3, 0, place), way[3 - place]);
        }
    }

    private static void wayNodeFirst() {
        Limits.hold("9;011", 0, 8, INDEX, (x, v) -> x.wayNode(v, 0, 0));
    }

    private static void wayNodeSecond() {
        Limits.hold("9;011", 0, 8, INDEX, (x, w) -> x.wayNode(0, w, 0));
    }

    private static void placeZero() {
        IntervalRouter x = Nets.of(RING);
        for (int v = 0; v < 5; v++) {
            for (int w = 0; w < 5; w++) {
                Expect.due("without tables", x.wayNode(v, w, 0), v);
            }
        }
        x.makeTables();
        Expect.due("with tables", x.wayNode(3, 0, 0), 3);
    }

    private static void wayHasNotSoMany() {
        IntervalRouter x = withTables(LINE);
        Expect.due("the last node", x.wayNode(0, 3, 3), 3);
        Expect.due("behind it", x.wayNode(0, 3, 4), -1);
        Expect.due("far behind it", x.wayNode(0, 3, 10), -1);
        Expect.due("as far as can be", x.wayNode(0, 3, Integer.MAX_VALUE), -1);
        Expect.due("the same node", x.wayNode(2, 2, 1), -1);
        direct(x, 1, 3, -1);
        Expect.due("where it stops", x.wayNode(0, 3, 1), 1);
        Expect.due("behind it", x.wayNode(0, 3, 2), -1);
        Expect.due("a single node", Nets.of("1").wayNode(0, 0, 1), -1);
        Expect.due("without tables", Nets.of("2;011").wayNode(0, 1, 1), -1);
    }

    private static void wayAround() {
        IntervalRouter x = Nets.of(LINE);
        direct(x, 0, 3, 0);
        direct(x, 1, 3, 0);
        int[] way = {0, 1, 0, 1, 0, -1};
        for (int place = 0; place < way.length; place++) {
            Expect.due("place " + place + " of n + 1 = 5", x.wayNode(0, 3, place), way[place]);
        }
        IntervalRouter nine = Nets.of("9;781");
        direct(nine, 7, 0, 0);
        direct(nine, 8, 0, 0);
        Expect.due("place 9 of n + 1 = 10", nine.wayNode(8, 0, 9), 7);
        Expect.due("place 10 of n + 1 = 10", nine.wayNode(8, 0, 10), -1);
    }

    private static void wayNodeRefused() {
        Limits.refused(LINE, 0, 3, INDEX, (x, v) -> x.wayNode(v, 3, 0));
        Limits.refused(LINE, 0, 3, INDEX, (x, w) -> x.wayNode(3, w, 0));
        Limits.refused(LINE, 0, 3, INDEX, (x, both) -> x.wayNode(both, both, -1));
        Limits.refused("0", 0, -1, INDEX, (x, both) -> x.wayNode(both, both, 0));
    }

    private static void placeNegative() {
        for (int place : new int[] {-1, -2, Integer.MIN_VALUE}) {
            IntervalRouter x = withTables(LINE);
            Expect.refused("place " + place, x, ARGUMENT, () -> x.wayNode(0, 3, place));
            Expect.refused("the same node, place " + place, x, ARGUMENT, () -> x.wayNode(2, 2, place));
        }
        Limits.taken(LINE, 0, Integer.MAX_VALUE, (x, place) -> x.wayNode(0, 3, place));
    }

    // ---- 29 and 30

    private static void arrivingPairs() {
        IntervalRouter x = withTables(RING);
        Expect.due("all of four nodes", x.arriving(), 12);
        // from 0 and 1 to 3 they stop at 2, but from 2 to 0 they arrive
        direct(x, 2, 3, -1);
        Expect.due("three pairs less", x.arriving(), 9);
        direct(x, 0, 3, 3);
        Expect.due("0 to 3 by the long link", x.arriving(), 10);
    }

    private static void arrivingAnswer() {
        Expect.due("without nodes", new IntervalRouter().arriving(), 0);
        Expect.due("a single node", Nets.of("1").arriving(), 0);
        Expect.due("without tables", Nets.of(LINE).arriving(), 0);
        Expect.due("two nodes", withTables("2;011").arriving(), 2);
        Expect.due("9 nodes", withTables(Nets.sixteen()).arriving(), 72);
        IntervalRouter one = Nets.of(LINE);
        direct(one, 3, 2, 2);
        Expect.due("one entry", one.arriving(), 1);
    }

    private static void greatestStretch() {
        IntervalRouter x = withTables(RING);
        Expect.dueDouble("shortest ways", x.stretch(), 1.0);
        // 0 3 2 instead of 0 1 2: 6 / 2
        direct(x, 0, 2, 3);
        Expect.dueDouble("6 / 2", x.stretch(), 3.0);
        // 0 3 2 1 instead of 0 1: 7 / 1
        direct(x, 0, 1, 3);
        Expect.dueDouble("7 / 1 before 6 / 2", x.stretch(), 7.0);
        // 1 0 3 instead of 1 2 3: the letter goes 1 and 5, 6 / 2
        IntervalRouter y = withTables(RING);
        direct(y, 1, 3, 0);
        direct(y, 0, 3, 3);
        Expect.dueDouble("6 / 2 before 5 / 3", y.stretch(), 3.0);
    }

    private static void stretchOfArriving() {
        IntervalRouter x = Nets.of(RING);
        direct(x, 3, 2, 2);
        Expect.dueDouble("one letter arrives", x.stretch(), 1.0);
        direct(x, 1, 3, 0);
        direct(x, 0, 3, 0);
        Expect.dueDouble("to and fro does not count", x.stretch(), 1.0);
        direct(x, 0, 3, 3);
        Expect.dueDouble("now it arrives by 6 instead of 2", x.stretch(), 3.0);
        direct(x, 0, 3, -1);
        Expect.dueDouble("what stops does not count", x.stretch(), 1.0);
        IntervalRouter back = withTables(RING);
        direct(back, 3, 0, 3);
        Expect.dueDouble("from 3 to 0, not from 0 to 3", back.stretch(), 5.0 / 3.0);
        IntervalRouter forth = withTables("3;011;121;023");
        direct(forth, 0, 2, 2);
        Expect.dueDouble("from the first to the last node", forth.stretch(), 3.0 / 2.0);
    }

    private static void stretchAsDouble() {
        IntervalRouter x = Nets.of(RING);
        direct(x, 0, 3, 3);
        Expect.dueDouble("5 / 3", x.stretch(), 5.0 / 3.0);
        IntervalRouter y = Nets.of("3;017;124;029");
        direct(y, 0, 1, 2);
        direct(y, 2, 1, 1);
        Expect.dueDouble("13 / 7 before 4 / 4", y.stretch(), 13.0 / 7.0);
    }

    private static void noStretch() {
        Expect.dueDouble("without nodes", new IntervalRouter().stretch(), 0.0);
        Expect.dueDouble("a single node", withTables("1").stretch(), 0.0);
        Expect.dueDouble("without tables", Nets.of(LINE).stretch(), 0.0);
        Expect.dueDouble("without links", withTables("9").stretch(), 0.0);
        Expect.yes("that it is not -0.0", 1.0 / Nets.of(LINE).stretch() > 0.0);
    }

    // ---- 31

    private static void loadOfArriving() {
        IntervalRouter x = Nets.of(LINE);
        Expect.due("without tables", x.load(0), 0);
        x.makeTables();
        // over link 0: 0 to 1, 2 and 3, and back
        Expect.due("an end", x.load(0), 6);
        Expect.due("the middle", x.load(1), 8);
        // from 0 and 1 to 3 they are sent over link 1, but stop at 2
        direct(x, 2, 3, -1);
        Expect.due("without those that stop", x.load(1), 6);
        Expect.due("without those that stop", x.load(0), 5);
        Expect.due("without those that stop", x.load(2), 3);
    }

    private static void loadOverIt() {
        IntervalRouter x = withTables(RING);
        Expect.due("no letter takes the long link", x.load(3), 0);
        direct(x, 0, 3, 3);
        Expect.due("one letter does", x.load(3), 1);
        Expect.due("it is not sent over the others", x.load(0), 5);
        direct(x, 1, 3, 0);
        Expect.due("two letters do", x.load(3), 2);
        Expect.due("the second one over link 0, too", x.load(0), 6);
        IntervalRouter last = withTables(Nets.SIXTEEN_OF_SEVEN);
        Expect.due("the last link: 3 to 4 and back", last.load(15), 2);
        IntervalRouter line = withTables("9;011;121;231;341;451;561;671;781");
        Expect.due("the first link of a line of 9", line.load(0), 16);
        Expect.due("the middle of a line of 9: 4 and 5 nodes", line.load(3), 40);
        Expect.due("the last link of a line of 9", line.load(7), 16);
    }

    private static void loadRange() {
        Limits.taken(Nets.SIXTEEN_OF_SEVEN, 0, 15, (x, link) -> x.load(link));
    }

    private static void loadCountsOnce() {
        // a letter that came over a link twice would have been twice at a node, and go around
        IntervalRouter x = Nets.of(LINE);
        direct(x, 0, 3, 0);
        direct(x, 1, 3, 0);
        Expect.due("to and fro without arriving", x.load(0), 0);
        direct(x, 1, 0, 0);
        direct(x, 2, 0, 1);
        Expect.due("two letters, each once", x.load(0), 2);
        Expect.due("one of them", x.load(1), 1);
    }

    private static void loadRefused() {
        Limits.refused(LINE, 0, 2, INDEX, (x, link) -> x.load(link));
        Limits.refused(Nets.SIXTEEN_OF_SEVEN, 0, 15, INDEX, (x, link) -> x.load(link));
        Limits.refused("0", 0, -1, INDEX, (x, link) -> x.load(link));
    }

    // ---- 32

    private static void lostArriveNow() {
        IntervalRouter x = Nets.of(LINE);
        Expect.due("without tables", x.lostWithout(0), 0);
        direct(x, 0, 1, 0);
        Expect.due("one letter", x.lostWithout(0), 1);
        direct(x, 0, 3, 0);
        Expect.due("one that stops is not lost", x.lostWithout(0), 1);
        direct(x, 1, 3, 0);
        Expect.due("one that goes around is not lost", x.lostWithout(0), 1);
    }

    private static void lostIfBroken() {
        IntervalRouter x = withTables(LINE);
        Expect.due("an end", x.lostWithout(0), 6);
        Expect.due("the middle", x.lostWithout(1), 8);
        Expect.due("the other end", x.lostWithout(2), 6);
        // in a triangle the letter goes over the third node
        IntervalRouter ring = withTables("3;011;121;201");
        for (int link = 0; link < 3; link++) {
            Expect.due("none of a triangle", ring.lostWithout(link), 0);
        }
        IntervalRouter unused = withTables(RING);
        Expect.due("a link that no letter takes", unused.lostWithout(3), 0);
    }

    private static void otherLinkWithTheLowestNumber() {
        // node 0 has the links 0 (to 3, a dead end), 1 (to 1) and 2 (to 2); without link 1 it sends letters over 0
        IntervalRouter x = withTables("4;031;011;021;121");
        Expect.due("0 and 3 to 1 go to and fro", x.lostWithout(1), 2);
        // the dead end is the last link: without link 0 node 0 sends letters over 1, to 2
        IntervalRouter y = withTables("4;011;021;121;031");
        Expect.due("over 2 they arrive", y.lostWithout(0), 0);
        // the lowest link of all is no link of node 0
        IntervalRouter z = withTables("4;231;011;021;121");
        Expect.due("over 2 they arrive", z.lostWithout(1), 0);
        // the next node follows its entry again: 1 sends the letter to 2 back over link 0
        IntervalRouter w = Nets.of("3;011;121;021");
        direct(w, 0, 2, 2);
        direct(w, 1, 2, 0);
        Expect.due("1 to 2 and 0 to 2 arrive", w.arriving(), 2);
        Expect.due("0 to 2 goes over 0 and back", w.lostWithout(2), 2);
        direct(w, 1, 2, 1);
        Expect.due("0 to 2 goes over 0 and on", w.lostWithout(2), 0);
    }

    private static void noOtherLink() {
        IntervalRouter two = withTables("2;011");
        Expect.due("both letters stop", two.lostWithout(0), 2);
        // 3 hangs at 0 by link 3 alone; the letters from it stop at once, those to it at 0, where they come back
        IntervalRouter x = withTables("4;011;121;201;031");
        Expect.due("three from 3 and three to 3", x.lostWithout(3), 6);
        // a link that was removed is none
        IntervalRouter y = Nets.of("3;011;121;021");
        y.removeLink(2);
        y.makeTables();
        Expect.due("from 0 and to 0", y.lostWithout(0), 4);
        Expect.due("of 16 links the last one", withTables(Nets.SIXTEEN_OF_SEVEN).lostWithout(15), 0);
    }

    private static void lostRange() {
        Limits.taken(Nets.SIXTEEN_OF_SEVEN, 0, 15, (x, link) -> x.lostWithout(link));
    }

    private static void lostAnswer() {
        IntervalRouter star = withTables("9;801;811;821;831;841;851;861;871");
        Expect.due("a link of a star: 8 from and 8 to its end", star.lostWithout(7), 16);
        IntervalRouter line = withTables("9;011;121;231;341;451;561;671;781");
        Expect.due("the middle of a line: 4 and 5 nodes", line.lostWithout(3), 40);
        long before = line.digest();
        line.lostWithout(3);
        Expect.due("the link is not really broken", line.digest(), before);
    }

    private static void lostRefused() {
        Limits.refused(LINE, 0, 2, INDEX, (x, link) -> x.lostWithout(link));
        Limits.refused(Nets.SIXTEEN_OF_SEVEN, 0, 15, INDEX, (x, link) -> x.lostWithout(link));
        Limits.refused("0", 0, -1, INDEX, (x, link) -> x.lostWithout(link));
    }
}
