/** The sentences under "Matches". */
final class MatchEdges {
    private static final String HERE = "Matches";

    private final Edges edges;

    MatchEdges(Edges edges) {
        this.edges = edges;
    }

    void run() {
        allNetsAreReached();
        allPartsAreReached();
        removedParts();
        ports();
        netsThatAreNoPorts();
        kindsAndValues();
        pins();
        lowestNets();
        lowestNetsThatArePossible();
        lowestParts();
    }

    /** Whether there is a match: found from the classes, and by trying. */
    private void due(String call, boolean want, Netcompare x) {
        edges.due(call, want, () -> x.isMatched());
        edges.due(call + ", by trying", want, () -> x.isMatchedByTrying());
    }

    private void allNetsAreReached() {
        edges.sentence(HERE, "A match maps each net of the wished circuit to one of the drawn one");
        due("no nets", true, new Netcompare());
        due("as many nets", true, Draw.both(6, "", ""));
        Netcompare more = Draw.both(5, "", "");
        more.addNet(1);
        due("a drawn net more", false, more);
        more.addNet(0);
        due("a wished net too", true, more);
        due("a wished net alone", false, Draw.one(1, ""));
        edges.due("ten nets", true, () -> Draw.both(10, "", "").isMatched());
        edges.due("ten nets in a ring, or in two", false, () -> Draw.both(10,
                "r1:0:1 r1:1:2 r1:2:3 r1:3:4 r1:4:5 r1:5:6 r1:6:7 r1:7:8 r1:8:9 r1:9:0",
                "r1:0:1 r1:1:2 r1:2:3 r1:3:4 r1:4:0 r1:5:6 r1:6:7 r1:7:8 r1:8:9 r1:9:5").isMatched());
    }

    private void allPartsAreReached() {
        edges.sentence(HERE, "each to another one and all of them being reached");
        due("as many parts", true, Draw.both(2, "r1:0:1 ".repeat(10), "r1:1:0 ".repeat(10)));
        due("the tenth part is another one", false,
                Draw.both(2, "r1:0:1 ".repeat(10), "r1:0:1 ".repeat(9) + "r2:0:1"));
        due("a drawn part more", false, Draw.both(2, "r1:0:1", "r1:0:1 r1:0:1"));
        due("a wished part more", false, Draw.both(2, "r1:0:1 r1:0:1", "r1:0:1"));
        due("a drawn part of a single net more", false, Draw.both(1, "", "r1:0:0"));
        due("the second one is another one", false, Draw.both(2, "r1:0:1 r1:0:1", "r1:0:1 r2:0:1"));
        due("the second one is elsewhere", false, Draw.both(3, "r1:0:1 r1:0:1", "r1:0:1 r1:1:2"));
        due("one part for a pair of nets each", false,
                Draw.both(4, "r1:0:1 r1:1:2 r1:2:3 r1:3:0", "r1:0:1 r1:0:1 r1:2:3 r1:2:3"));
    }

    private void removedParts() {
        edges.sentence(HERE, "each part that is not removed to one that is not");
        Netcompare x = Draw.both(2, "r1:0:1 r9:0:1", "c9:1:1 r1:0:1");
        x.removePart(0, 1);
        due("a removed one is left over", false, x);
        x.removePart(1, 0);
        due("both removed", true, x);
        edges.due("to the one that is not removed", 1, () -> x.matchedPart(0));
        x.removePart(0, 0);
        x.removePart(1, 1);
        due("all removed", true, x);
        Netcompare y = Draw.both(3, "d1:2:2 r1:0:1 r1:0:1 t1:0:1:2", "r1:0:1 t1:0:2:1 r1:0:1");
        y.removePart(0, 0);
        due("the first one removed in the wished one", true, y);
        edges.due("each to one that is there", "0 2 1 ", () -> parts(y, 1, 2, 3));
        edges.due("not the removed one", Check.ELEMENT, () -> y.matchedPart(0));
        edges.due("the pins of the last one", "021", () -> "" + y.matchedPin(3, 0) + y.matchedPin(3, 1)
                + y.matchedPin(3, 2));
        edges.due("the pins of a drawn transistor's number", Check.INDEX, () -> y.matchedPin(1, 2));
    }

    private void ports() {
        edges.sentence(HERE, "a port is mapped to the port with the same letter");
        due("the same letter", true, Draw.both(2, "a=0", "a=1"));
        due("another letter", false, Draw.both(1, "a=0", "b=0"));
        due("letters on the wrong ends", false, Draw.both(2, "d1:0:1 a=0 b=1", "d1:0:1 b=0 a=1"));
        Netcompare x = Draw.both(6, "a=0 b=1 c=2 d=3 e=4 f=5", "f=0 e=1 d=2 c=3 b=4 a=5");
        due("six letters", true, x);
        edges.due("all of them", "5 4 3 2 1 0 ", () -> nets(x));
    }

    private void netsThatAreNoPorts() {
        edges.sentence(HERE, "a net that is no port to one that is none");
        due("a wished port alone", false, Draw.both(1, "a=0", ""));
        due("a drawn port alone", false, Draw.both(1, "", "a=0"));
        due("a drawn port more", false, Draw.both(2, "a=0", "a=0 b=1"));
        Netcompare x = Draw.both(2, "a=0", "a=0");
        x.setPort(0, 0, '-');
        due("a wished port ended", false, x);
        x.setPort(1, 0, '-');
        due("both ended", true, x);
    }

    private void kindsAndValues() {
        edges.sentence(HERE, "a part to a part of the same kind and value");
        due("the same", true, Draw.both(2, "r999:0:1", "r999:0:1"));
        due("another kind", false, Draw.both(2, "r1:0:1", "c1:0:1"));
        due("another value", false, Draw.both(2, "r998:0:1", "r999:0:1"));
        due("a diode for a resistor", false, Draw.both(2, "d1:0:1", "r1:0:1"));
        due("kinds the other way round", false, Draw.both(2, "r1:0:0 c1:1:1 a=0", "c1:0:0 r1:1:1 a=0"));
        due("values the other way round", false, Draw.both(2, "r1:0:0 r2:1:1 a=0", "r2:0:0 r1:1:1 a=0"));
        due("values and ports the other way round", true, Draw.both(2, "r1:0:0 r2:1:1 a=0", "r2:0:0 r1:1:1 a=1"));
    }

    private void pins() {
        edges.sentence(HERE, "the same ones or with pins swapped that can be, so that the net of each pin is mapped to "
                + "the net of the pin to which it is mapped");
        due("a resistor turned", true, Draw.both(2, "r1:0:1 a=0", "r1:1:0 a=0"));
        due("a capacitor turned", true, Draw.both(2, "c1:0:1 a=0", "c1:1:0 a=0"));
        due("a diode turned", false, Draw.both(2, "d1:0:1 a=0", "d1:1:0 a=0"));
        due("a diode and its nets turned", true, Draw.both(2, "d1:0:1 a=0", "d1:1:0 a=1"));
        due("pins 1 and 2 of a transistor", true, Draw.both(3, "t1:0:1:2 a=1", "t1:0:2:1 a=1"));
        due("pins 0 and 1 of a transistor", false, Draw.both(3, "t1:0:1:2 a=1", "t1:1:0:2 a=1"));
        due("pins 0 and 2 of a transistor", false, Draw.both(3, "t1:0:1:2 a=2", "t1:2:1:0 a=2"));
        due("both pins on one net", false, Draw.both(2, "r1:0:0", "r1:0:1"));
        due("the other two pins on one net", false, Draw.both(2, "t1:0:1:1", "t1:0:0:1"));
        due("another net", false, Draw.both(3, "r1:0:1 a=0 b=1 c=2", "r1:0:2 a=0 b=1 c=2"));
    }

    /** To which nets the wished ones are mapped, by both ways if there are few enough. */
    private static String nets(Netcompare x) {
        StringBuilder all = new StringBuilder();
        for (int net = 0; net < x.nets(0); net++) {
            int to = x.matchedNet(net);
            boolean isSame = x.nets(0) > 6 || x.netByTrying(net) == to;
            all.append(to).append(isSame ? " " : " but not by trying ");
        }
        return all.toString();
    }

    private void lowestNets() {
        edges.sentence(HERE, "The first match is, of all matches, the one that maps the net 0 to the lowest net "
                + "possible, then the net 1 to the lowest one possible, and so on");
        edges.due("all are possible", "0 1 2 3 4 5 ", () -> nets(Draw.both(6, "", "")));
        edges.due("ten nets", "0 1 2 3 4 5 6 7 8 9 ", () -> nets(Draw.both(10, "", "")));
        edges.due("a ring drawn by another way", "0 2 1 3 ", () -> nets(
                Draw.both(4, "r1:0:1 r1:1:2 r1:2:3 r1:3:0", "r1:0:3 r1:3:1 r1:1:2 r1:2:0")));
        edges.due("net 0 ahead of the nets of the part 0", "0 2 1 3 ", () -> nets(
                Draw.both(4, "d1:2:3 d1:0:1", "d1:0:2 d1:1:3")));
        edges.due("net 0 to 2, though net 1 could go to 0", "2 1 3 0 ", () -> nets(
                Draw.both(4, "d1:1:0 d1:3:2", "d1:0:3 d1:1:2")));
    }

    private void lowestNetsThatArePossible() {
        edges.sentence(HERE, "to the lowest net possible");
        edges.due("lower ones are alike, but in no match", "2 3 4 5 0 1 ", () -> nets(Draw.both(6,
                "r1:0:1 r1:1:2 r1:2:3 r1:3:0 r1:4:5 r1:4:5", "r1:0:1 r1:0:1 r1:2:3 r1:3:4 r1:4:5 r1:5:2")));
        edges.due("the same with eight nets", "4 5 6 7 0 1 2 3 ", () -> nets(Draw.both(8,
                "r1:0:1 r1:1:2 r1:2:3 r1:3:0 r1:4:5 r1:4:5 r1:6:7 r1:6:7",
                "r1:0:1 r1:0:1 r1:2:3 r1:2:3 r1:4:5 r1:5:6 r1:6:7 r1:7:4")));
        edges.due("a lower one is another port", "1 0 2 ", () -> nets(Draw.both(3, "a=0 b=1", "b=0 a=1")));
    }

    private void lowestParts() {
        edges.sentence(HERE, "and behind all nets the part with the lowest number to the lowest one possible, and so "
                + "on");
        Netcompare x = Draw.both(2, "r1:0:1 r2:0:1 r1:0:1 r1:1:0 r1:0:1", "r1:0:1 r1:1:0 c1:0:1 r2:0:1 r1:0:1 r1:1:0");
        x.removePart(1, 2);
        edges.due("all in their order", "0 3 1 4 5 ", () -> parts(x, 0, 1, 2, 3, 4));
        x.removePart(0, 0);
        x.removePart(1, 1);
        edges.due("behind a removal", "3 0 4 5 ", () -> parts(x, 1, 2, 3, 4));
        edges.due("nets first, though part 0 could go to 0", "1 0 ", () -> parts(
                Draw.both(4, "r1:2:3 r1:0:1", "r1:0:1 r1:2:3"), 0, 1));
        edges.due("the lowest one is left to the last", "1 2 0 ", () -> parts(
                Draw.both(3, "r1:0:1 r1:1:2 r1:2:2", "r1:2:2 r1:0:1 r1:1:2"), 0, 1, 2));
    }

    private static String parts(Netcompare x, int... wished) {
        StringBuilder all = new StringBuilder();
        for (int part : wished) {
            all.append(x.matchedPart(part)).append(' ');
        }
        return all.toString();
    }
}
