/** The sentences under "Colours". */
final class ColourEdges {
    private static final String HERE = "Colours";
    /** A chain with a port at its end: a part more, or a net more, is told apart in each round. */
    private static final String CHAIN = "r1:0:1 r1:1:2 r1:2:3 r1:3:4 r1:4:5 a=0";

    private final Edges edges;

    ColourEdges(Edges edges) {
        this.edges = edges;
    }

    void run() {
        firstColoursOfParts();
        firstColoursOfNets();
        lettersAndPinsTogether();
        pinsAsOftenAsTheyCome();
        coloursOfPins();
        netsOfAPart();
        coloursAhead();
        bothCircuitsAtOnce();
        untilNoMoreAreToldApart();
        classesOfBothCircuits();
    }

    /** Rounds, classes of nets and classes of parts. */
    private void due(String call, String want, Netcompare x) {
        edges.due(call, want, () -> x.rounds() + " " + x.netClasses() + " " + x.partClasses());
    }

    private void firstColoursOfParts() {
        edges.sentence(HERE, "The first colour of a part that is not removed is told by its kind and value");
        due("all kinds", "0 1 3", Draw.one(1, "r1:0:0 c1:0:0 d1:0:0"));
        due("a transistor too", "0 1 4", Draw.one(1, "r1:0:0 c1:0:0 d1:0:0 t1:0:0:0"));
        due("the least and the greatest value", "0 1 2", Draw.one(1, "r1:0:0 r999:0:0"));
        due("the same kind and value", "0 1 1", Draw.one(1, "r7:0:0 r7:0:0 r7:0:0"));
        Netcompare x = Draw.both(1, "r7:0:0 c7:0:0", "r7:0:0 d8:0:0");
        x.removePart(0, 1);
        x.removePart(1, 1);
        due("removed parts have no colour", "0 1 1", x);
        x.removePart(0, 0);
        x.removePart(1, 0);
        due("no part is left", "0 1 0", x);
        Netcompare y = Draw.one(2, "d1:0:1 r5:0:0");
        y.removePart(0, 1);
        due("a removed part hides no round", "1 2 1", y);
    }

    private void firstColoursOfNets() {
        edges.sentence(HERE, "that of a net by its letter, if it is a port");
        due("nets without pins", "0 1 0", Draw.one(10, ""));
        due("a port", "0 2 0", Draw.one(10, "a=9"));
        due("six ports", "0 7 0", Draw.one(10, "a=0 b=1 c=2 d=3 e=4 f=5"));
        due("the same letter in both circuits", "0 2 0", Draw.both(2, "a=0", "a=1"));
        due("other letters in both circuits", "0 3 0", Draw.both(2, "a=0", "f=0"));
        due("a letter in one circuit", "0 2 0", Draw.both(1, "a=0", ""));
    }

    private void lettersAndPinsTogether() {
        edges.sentence(HERE, "and by the number of its pins");
        due("none, one and two pins", "1 3 2", Draw.one(4, "r1:0:1 r1:3:3"));
        due("29 and 30 pins", "1 2 3", Draw.both(1, "t1:0:0:0 ".repeat(10), "t1:0:0:0 ".repeat(9) + "r1:0:0"));
        due("a port without pins and one with two", "1 4 2", Draw.both(2, "a=0 r1:0:0", "a=0 r1:1:1"));
        edges.due("they are not alike", false, () -> Draw.both(1, "a=0 r1:0:0", "a=0").areAlike(0, 0));
        edges.due("nets with as many pins are alike", true, () -> Draw.both(1, "r1:0:0", "r1:0:0").areAlike(0, 0));
    }

    private void pinsAsOftenAsTheyCome() {
        edges.sentence(HERE, "by the colours of all its pins, each one as often as it comes");
        // The nets 0 and 1 have two pins of resistors and one of a capacitor, the nets 2 and 3 the other way round.
        due("twice or once", "2 2 4", Draw.one(4, "r1:0:1 r1:0:2 r1:1:3 c1:2:3 c1:2:0 c1:3:1"));
        String nine = "t1:0:0:0 t2:0:0:0 t3:0:0:0 t4:0:0:0 t5:0:0:0 t6:0:0:0 t7:0:0:0 t8:0:0:0 t9:0:0:0 ";
        due("the last of thirty", "2 2 20", Draw.both(1, nine + "t10:0:0:0", nine + "t11:0:0:0"));
        due("the same in another order", "0 1 2", Draw.both(1, "r1:0:0 c1:0:0", "c1:0:0 r1:0:0"));
    }

    private void coloursOfPins() {
        edges.sentence(HERE, "told by the colour of its part and by whether it is a pin that can be swapped, or else "
                + "which one it is");
        due("parts of two kinds", "1 2 2", Draw.one(2, "r1:0:0 c1:1:1"));
        due("parts of two values", "1 2 2", Draw.one(2, "r1:0:0 r2:1:1"));
        due("all pins of all kinds", "1 6 4", Draw.one(9, "r1:0:1 d1:2:3 t1:4:5:6 c1:7:8"));
        due("all pins of all kinds in another order", "1 6 4", Draw.one(9, "d1:0:1 t1:4:5:6 c1:7:8 r1:2:3"));
        due("the pins of a resistor", "0 1 1", Draw.one(2, "r1:0:1"));
        due("the pins of a capacitor", "0 1 1", Draw.one(2, "c1:0:1"));
        due("the pins of a diode", "1 2 1", Draw.one(2, "d1:0:1"));
        due("the pins of a transistor", "1 2 1", Draw.one(3, "t1:0:1:2"));
        due("two transistors crossed", "0 1 1", Draw.one(2, "t1:0:1:1 t1:1:0:0"));
        edges.due("pin 0 of a transistor is not alike", false,
                () -> Draw.both(3, "t1:0:1:2", "t1:0:1:2").areAlike(0, 1));
        edges.due("the pins 1 and 2 are alike", true, () -> Draw.both(3, "t1:0:1:2", "t1:0:1:2").areAlike(1, 2));
    }

    private void netsOfAPart() {
        edges.sentence(HERE, "the new colour of a part is told by its colour and by the colours of the nets of its "
                + "pins, for pins that can be swapped in any order");
        due("a resistor turned", "0 2 1", Draw.both(2, "r1:0:1 a=0", "r1:1:0 a=0"));
        due("a capacitor turned", "0 2 1", Draw.both(2, "c1:0:1 a=0", "c1:1:0 a=0"));
        due("a diode turned is told apart at once", "1 4 2", Draw.both(2, "d1:0:1 a=0", "d1:1:0 a=0"));
        due("a transistor with 1 and 2 swapped", "1 3 1", Draw.both(3, "t1:0:1:2 a=1", "t1:0:2:1 a=1"));
        due("a transistor with 0 and 1 swapped", "2 5 2", Draw.both(3, "t1:0:1:2 a=1", "t1:1:0:2 a=1"));
        due("the same parts on other nets", "2 4 2", Draw.both(2, "r1:0:1 a=0", "r1:0:1 b=0"));
        edges.due("a part on a port", 0, () -> Draw.both(2, "r1:0:1 a=0", "r1:0:1").partsLike(0, 0, 1));
    }

    private void coloursAhead() {
        edges.sentence(HERE, "All new colours of a round are told by colours ahead of it.");
        due("a chain of six nets", "4 6 5", Draw.one(6, CHAIN));
        String hub = "t1:0:0:0 ".repeat(5) + "r1:0:1 r1:1:2 r1:2:3 ";
        due("a net with many pins, told apart late", "7 8 8", Draw.both(4, hub + "a=3", hub + "b=3"));
        due("a chain of ten nets", "8 10 9", Draw.one(10,
                "r1:0:1 r1:1:2 r1:2:3 r1:3:4 r1:4:5 r1:5:6 r1:6:7 r1:7:8 r1:8:9 a=0"));
        due("a chain of ten nets, the other way round", "8 10 9", Draw.one(10,
                "r1:8:9 r1:7:8 r1:6:7 r1:5:6 r1:4:5 r1:3:4 r1:2:3 r1:1:2 r1:0:1 a=9"));
    }

    private void bothCircuitsAtOnce() {
        edges.sentence(HERE, "Rounds go on, in both circuits at once");
        due("a chain in the wished one", "4 7 5", Draw.both(6, CHAIN, ""));
        due("a chain in the drawn one", "4 7 5", Draw.both(6, "", CHAIN));
        due("the same chain in both", "4 6 5", Draw.both(6, CHAIN, CHAIN));
        due("two chains", "4 12 10", Draw.both(6, CHAIN, CHAIN.replace("r1", "c1")));
    }

    private void untilNoMoreAreToldApart() {
        edges.sentence(HERE, "until no more colours are told apart by a round");
        due("nothing at all", "0 0 0", new Netcompare());
        due("all alike from the first", "0 1 1", Draw.one(2, "r1:0:1"));
        due("all apart from the first", "0 2 1", Draw.one(2, "r1:0:1 a=0"));
        due("a round that tells only parts apart, and no more", "1 3 2", Draw.one(3, "r1:0:1 r1:1:2 a=0"));
        due("a round that tells only nets apart, and no more", "1 2 2", Draw.one(2, "r1:0:0 c1:1:1"));
        due("parts, then nets", "2 3 2", Draw.one(5, "r1:0:1 r1:1:2 r1:2:3 r1:3:4"));
        Netcompare x = Draw.one(2, "d1:0:1");
        due("a round", "1 2 1", x);
        x.addNet(1);
        due("a round, counted anew behind a change", "1 3 1", x);
        x.rewire(0, 0, 1, 0);
        due("a change that needs no round", "0 2 1", x);
        due("more rounds than a circuit has nets", "17 19 19", Draw.both(10,
                "r1:5:7 r1:6:1 r1:9:9 r1:0:6 r1:3:9 r2:4:7 d1:1:1 r1:3:4 d1:5:2 r1:2:0 a=1",
                "r1:8:8 r1:5:6 r2:5:3 r1:4:3 r1:9:0 r1:0:7 r1:4:8 d1:6:7 r1:1:9 a=1"));
        due("rings are never told apart", "0 1 1", Draw.both(4, "r1:0:1 r1:1:2 r1:2:3 r1:3:0",
                "r1:0:1 r1:0:1 r1:2:3 r1:2:3"));
    }

    private void classesOfBothCircuits() {
        edges.sentence(HERE, "The classes are the sets of nets of both circuits with the same colour, and the sets of "
                + "parts of both circuits with the same colour.");
        due("one class over both", "0 1 1", Draw.both(1, "r1:0:0", "r1:0:0"));
        Netcompare x = Draw.both(10, loops(0), loops(0));
        due("ten classes over both", "1 10 10", x);
        edges.due("one member in each circuit", "1 1", () -> x.netsLike(0, 9, 0) + " " + x.netsLike(0, 9, 1));
        due("no class over both", "1 20 20", Draw.both(10, loops(0), loops(10)));
        due("a class in one circuit", "0 1 0", Draw.one(1, ""));
    }

    /** Ten nets, each with a part of its own value. */
    private static String loops(int above) {
        StringBuilder text = new StringBuilder();
        for (int net = 0; net < 10; net++) {
            text.append(" r").append(above + net + 1).append(":" + net).append(":" + net);
        }
        return text.toString();
    }
}
