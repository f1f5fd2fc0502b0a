import java.util.function.Supplier;

/** Each "Throws" of each promise: at every edge of what is refused, and that a refused call changes nothing. */
final class RefusalEdges {
    private static final String NO_CIRCUIT = "if there is no such circuit";
    private static final String NO_NET = "if there is no such net";
    private static final String NO_PART = "if there is no such part, or it is removed";
    private static final String NO_PIN = "if the part has no such pin";
    private static final String NO_MATCH = "if there is no match";
    private static final String NO_DIFFERENCE = "if there is no such difference";
    private static final int LEAST = Integer.MIN_VALUE;
    private static final int MOST = Integer.MAX_VALUE;
    private static final int[] CIRCUITS = {-1, 2, 256, LEAST, MOST};
    /** None of the four wished nets of {@link #drawn}. */
    private static final int[] NETS = {-1, 4, 9, 10, 256, LEAST, MOST};
    /** None of its four wished parts, or the one that is removed. */
    private static final int[] PARTS = {-1, 1, 4, 9, 10, 256, LEAST, MOST};
    private static final int[] VALUES = {0, -1, 1000, LEAST, MOST};

    /** A call with one number in it, of which several are tried. */
    private interface Call {
        Object of(Netcompare x, int number);
    }

    private final Edges edges;
    private Supplier<Netcompare> made = RefusalEdges::drawn;
    private int promise;

    RefusalEdges(Edges edges) {
        this.edges = edges;
    }

    void run() {
        addNet();
        setPort();
        addPart();
        tenPartsAdded();
        removePartAndSetValue();
        rewire();
        swapPins();
        joining();
        wholeCircuits();
        readingParts();
        readingNets();
        labels();
        colours();
        byTrying();
        matchedNets();
        matchedParts();
        differences();
        shares();
    }

    /** In the wished circuit four nets, and four parts of which one is removed; three nets in the drawn one. */
    private static Netcompare drawn() {
        Netcompare x = new Netcompare();
        Draw.on(x, 0, 4, "r47:0:2 c5:0:1 d7:1:3 t9:2:3:1 a=0 b=1");
        Draw.on(x, 1, 3, "r47:1:2 c5:0:1 d7:2:0 t9:0:2:1 a=1 f=2");
        x.removePart(0, 1);
        x.removePart(1, 1);
        return x;
    }

    private static Netcompare full() {
        return Draw.both(10, "r5:0:1 ".repeat(10), "t5:0:1:9 ".repeat(10));
    }

    private static Netcompare matching() {
        Netcompare x = drawn();
        x.copyWished();
        return x;
    }

    private static Netcompare withNets(int wished, int drawn) {
        Netcompare x = Draw.one(wished, "");
        Draw.on(x, 1, drawn, "");
        return x;
    }

    private void of(int number, Supplier<Netcompare> objects) {
        promise = number;
        made = objects;
    }

    /** Each call is made on a new object, which must then tell the same as one on which it has not been made. */
    private void refused(String exception, String words, Call call, int... numbers) {
        edges.sentence("Promise " + promise, "Throws `" + exception + "` " + words);
        for (int number : numbers) {
            Netcompare x = made.get();
            edges.due("with " + number, exception, () -> call.of(x, number));
            edges.due("all behind " + number, State.of(made.get()), () -> State.of(x));
        }
    }

    private void addNet() {
        of(2, RefusalEdges::drawn);
        refused(Check.ARGUMENT, NO_CIRCUIT, (x, c) -> x.addNet(c), CIRCUITS);
        of(2, RefusalEdges::full);
        refused(Check.STATE, "if the circuit has 10 nets", (x, c) -> x.addNet(c), 0, 1);
    }

    private void setPort() {
        of(3, RefusalEdges::drawn);
        String wrong = "if there is no such circuit, or the letter is neither from 'a' to 'f' nor '-'";
        refused(Check.ARGUMENT, wrong, (x, c) -> x.setPort(c, 2, 'c'), CIRCUITS);
        refused(Check.ARGUMENT, wrong, (x, c) -> x.setPort(c, 2, '-'), CIRCUITS);
        refused(Check.ARGUMENT, wrong, (x, l) -> x.setPort(0, 2, (char) l),
                '`', 'g', 'z', 'A', 'F', '0', ' ', ',', '.', '_', 0, 'a' + 256, '-' + 256, 0xffff);
        refused(Check.ELEMENT, NO_NET, (x, n) -> x.setPort(0, n, 'c'), NETS);
        refused(Check.ELEMENT, NO_NET, (x, n) -> x.setPort(0, n, '-'), NETS);
        refused(Check.ELEMENT, NO_NET, (x, n) -> x.setPort(1, n, 'c'), 3);
        String taken = "if another net of the circuit has the letter";
        refused(Check.STATE, taken, (x, n) -> x.setPort(0, n, 'a'), 1, 2, 3);
        refused(Check.STATE, taken, (x, n) -> x.setPort(0, n, 'b'), 0, 2, 3);
        refused(Check.STATE, taken, (x, n) -> x.setPort(1, n, 'f'), 0, 1);
    }

    private void addPart() {
        of(4, RefusalEdges::drawn);
        String wrong = "if there is no such circuit, or the kind or the value is out of range, or the third net of "
                + "another part than a transistor is not -1";
        refused(Check.ARGUMENT, wrong, (x, c) -> x.addPart(c, 'r', 1, 0, 1, -1), CIRCUITS);
        refused(Check.ARGUMENT, wrong, (x, k) -> x.addPart(0, (char) k, 1, 0, 1, -1),
                'a', 'b', 'e', 'q', 's', 'u', 'R', 'C', 'D', 'T', '-', 0, 'r' + 256, 0xffff);
        refused(Check.ARGUMENT, wrong, (x, v) -> x.addPart(0, 'r', v, 0, 1, -1), VALUES);
        refused(Check.ARGUMENT, wrong, (x, v) -> x.addPart(0, 't', v, 0, 1, 2), VALUES);
        for (char kind : "rcd".toCharArray()) {
            refused(Check.ARGUMENT, wrong, (x, n) -> x.addPart(0, kind, 1, 0, 1, n), -2, 0, 1, 3, 4, LEAST, MOST);
        }
        String wrongNet = "if a net does not exist";
        refused(Check.ELEMENT, wrongNet, (x, n) -> x.addPart(0, 'r', 1, n, 1, -1), NETS);
        refused(Check.ELEMENT, wrongNet, (x, n) -> x.addPart(0, 'd', 1, 0, n, -1), NETS);
        refused(Check.ELEMENT, wrongNet, (x, n) -> x.addPart(0, 't', 1, n, 1, 2), NETS);
        refused(Check.ELEMENT, wrongNet, (x, n) -> x.addPart(0, 't', 1, 0, n, 2), NETS);
        refused(Check.ELEMENT, wrongNet, (x, n) -> x.addPart(0, 't', 1, 0, 1, n), NETS);
        refused(Check.ELEMENT, wrongNet, (x, n) -> x.addPart(1, 'r', 1, n, n, -1), 3);
    }

    private void tenPartsAdded() {
        String words = "if 10 parts have been added to the circuit";
        of(4, RefusalEdges::full);
        refused(Check.STATE, words, (x, c) -> x.addPart(c, 'r', 1, 0, 1, -1), 0, 1);
        refused(Check.STATE, words, (x, c) -> x.addPart(c, 't', 1, 0, 1, 2), 0, 1);
        of(4, () -> {
            Netcompare x = full();
            x.removePart(0, 9);
            x.removePart(1, 0);
            return x;
        });
        refused(Check.STATE, words, (x, c) -> x.addPart(c, 'r', 1, 0, 1, -1), 0, 1);
        of(4, () -> {
            Netcompare x = full();
            x.joinAll(0);
            x.copyWished();
            return x;
        });
        refused(Check.STATE, words, (x, c) -> x.addPart(c, 'r', 1, 0, 1, -1), 0, 1);
    }

    private void removePartAndSetValue() {
        of(5, RefusalEdges::drawn);
        refused(Check.ARGUMENT, NO_CIRCUIT, (x, c) -> x.removePart(c, 0), CIRCUITS);
        refused(Check.ELEMENT, NO_PART, (x, p) -> x.removePart(0, p), PARTS);
        refused(Check.ELEMENT, NO_PART, (x, p) -> x.removePart(1, p), PARTS);
        of(6, RefusalEdges::drawn);
        String wrong = "if there is no such circuit, or the value is out of range";
        refused(Check.ARGUMENT, wrong, (x, c) -> x.setValue(c, 0, 5), CIRCUITS);
        refused(Check.ARGUMENT, wrong, (x, v) -> x.setValue(0, 0, v), VALUES);
        refused(Check.ELEMENT, NO_PART, (x, p) -> x.setValue(0, p, 5), PARTS);
        of(6, RefusalEdges::full);
        refused(Check.ELEMENT, NO_PART, (x, p) -> x.setValue(1, p, 5), -1, 10);
    }

    private void rewire() {
        of(7, RefusalEdges::drawn);
        refused(Check.ARGUMENT, NO_CIRCUIT, (x, c) -> x.rewire(c, 0, 0, 1), CIRCUITS);
        refused(Check.ELEMENT, NO_PART, (x, p) -> x.rewire(0, p, 0, 1), PARTS);
        refused(Check.INDEX, NO_PIN, (x, p) -> x.rewire(0, 0, p, 1), -1, 2, 3, LEAST, MOST);
        refused(Check.INDEX, NO_PIN, (x, p) -> x.rewire(0, 2, p, 1), -1, 2, 3, LEAST, MOST);
        refused(Check.INDEX, NO_PIN, (x, p) -> x.rewire(0, 3, p, 1), -1, 3, 4, LEAST, MOST);
        refused(Check.UNSUPPORTED, NO_NET, (x, n) -> x.rewire(0, 0, 1, n), NETS);
        refused(Check.UNSUPPORTED, NO_NET, (x, n) -> x.rewire(0, 3, 2, n), NETS);
        refused(Check.UNSUPPORTED, NO_NET, (x, n) -> x.rewire(1, 0, 1, n), 3);
    }

    private void swapPins() {
        of(8, RefusalEdges::drawn);
        refused(Check.ARGUMENT, NO_CIRCUIT, (x, c) -> x.swapPins(c, 0), CIRCUITS);
        refused(Check.ELEMENT, NO_PART, (x, p) -> x.swapPins(0, p), PARTS);
        refused(Check.UNSUPPORTED, "if it is a diode", (x, c) -> x.swapPins(c, 2), 0, 1);
    }

    private void joining() {
        of(10, RefusalEdges::drawn);
        refused(Check.ARGUMENT, NO_CIRCUIT, (x, c) -> x.canJoin(c, 0, 2), CIRCUITS);
        refused(Check.ELEMENT, NO_PART, (x, p) -> x.canJoin(0, p, 0), PARTS);
        refused(Check.ELEMENT, NO_PART, (x, p) -> x.canJoin(0, 0, p), PARTS);
        of(11, () -> Draw.both(3, "r1:0:1 c5:0:0 r2:1:2 d1:0:2", "r1:0:1 r5:0:1 r2:0:1 d1:0:0"));
        refused(Check.ARGUMENT, NO_CIRCUIT, (x, c) -> x.join(c, 0, 2), CIRCUITS);
        refused(Check.UNSUPPORTED, "if they are neither in series nor in parallel",
                (x, p) -> x.join(0, 0, p), 0, 1, 3);
        refused(Check.UNSUPPORTED, "if they are neither in series nor in parallel",
                (x, p) -> x.join(1, 3, p), 0, 1, 2, 3);
        of(11, RefusalEdges::drawn);
        refused(Check.ELEMENT, NO_PART, (x, p) -> x.join(0, p, 0), PARTS);
        refused(Check.ELEMENT, NO_PART, (x, p) -> x.join(0, 0, p), PARTS);
        of(12, () -> Draw.both(3, "r1:0:1 r2:1:2", "r1:0:1 r2:1:2"));
        refused(Check.ARGUMENT, NO_CIRCUIT, (x, c) -> x.joinAll(c), CIRCUITS);
    }

    private void wholeCircuits() {
        of(13, RefusalEdges::drawn);
        refused(Check.ARGUMENT, NO_CIRCUIT, (x, c) -> x.nets(c), CIRCUITS);
        of(14, RefusalEdges::drawn);
        refused(Check.ARGUMENT, NO_CIRCUIT, (x, c) -> x.parts(c), CIRCUITS);
        of(42, RefusalEdges::drawn);
        refused(Check.ARGUMENT, NO_CIRCUIT, (x, c) -> x.valueSum(c), CIRCUITS);
    }

    private void readingParts() {
        of(15, RefusalEdges::drawn);
        refused(Check.ARGUMENT, NO_CIRCUIT, (x, c) -> x.kindOf(c, 0), CIRCUITS);
        refused(Check.ELEMENT, NO_PART, (x, p) -> x.kindOf(0, p), PARTS);
        of(16, RefusalEdges::drawn);
        refused(Check.ARGUMENT, NO_CIRCUIT, (x, c) -> x.valueOf(c, 0), CIRCUITS);
        refused(Check.ELEMENT, NO_PART, (x, p) -> x.valueOf(0, p), PARTS);
        of(17, RefusalEdges::drawn);
        refused(Check.ARGUMENT, NO_CIRCUIT, (x, c) -> x.netOf(c, 0, 0), CIRCUITS);
        refused(Check.ELEMENT, NO_PART, (x, p) -> x.netOf(0, p, 0), PARTS);
        refused(Check.INDEX, NO_PIN, (x, p) -> x.netOf(0, 0, p), -1, 2, 3, LEAST, MOST);
        refused(Check.INDEX, NO_PIN, (x, p) -> x.netOf(0, 2, p), -1, 2, 3, LEAST, MOST);
        refused(Check.INDEX, NO_PIN, (x, p) -> x.netOf(0, 3, p), -1, 3, 4, LEAST, MOST);
    }

    private void readingNets() {
        of(18, RefusalEdges::drawn);
        refused(Check.ARGUMENT, NO_CIRCUIT, (x, c) -> x.pinsOn(c, 0), CIRCUITS);
        refused(Check.ELEMENT, NO_NET, (x, n) -> x.pinsOn(0, n), NETS);
        of(19, RefusalEdges::drawn);
        refused(Check.ARGUMENT, NO_CIRCUIT, (x, c) -> x.portOf(c, 0), CIRCUITS);
        refused(Check.ELEMENT, NO_NET, (x, n) -> x.portOf(0, n), NETS);
        of(20, RefusalEdges::drawn);
        refused(Check.ARGUMENT, NO_CIRCUIT, (x, c) -> x.distance(c, 0), CIRCUITS);
        refused(Check.ELEMENT, NO_NET, (x, n) -> x.distance(0, n), NETS);
        refused(Check.ELEMENT, NO_NET, (x, n) -> x.distance(1, n), 3);
    }

    private void labels() {
        of(21, RefusalEdges::drawn);
        refused(Check.ARGUMENT, NO_CIRCUIT, (x, c) -> x.labelLength(c, 0), CIRCUITS);
        refused(Check.ELEMENT, NO_PART, (x, p) -> x.labelLength(0, p), PARTS);
        of(22, RefusalEdges::drawn);
        refused(Check.ARGUMENT, NO_CIRCUIT, (x, c) -> x.labelAt(c, 0, 0), CIRCUITS);
        refused(Check.ELEMENT, NO_PART, (x, p) -> x.labelAt(0, p, 0), PARTS);
        refused(Check.INDEX, "if there is no such index", (x, i) -> x.labelAt(0, 0, i), -1, 7, 8, LEAST, MOST);
        refused(Check.INDEX, "if there is no such index", (x, i) -> x.labelAt(0, 2, i), -1, 6, 7, LEAST, MOST);
        of(22, () -> Draw.one(1, "t999:0:0:0"));
        refused(Check.INDEX, "if there is no such index", (x, i) -> x.labelAt(0, 0, i), -1, 10, 11, LEAST, MOST);
    }

    private void colours() {
        String either = "if there is no such circuit, for either";
        of(26, RefusalEdges::drawn);
        refused(Check.ARGUMENT, either, (x, c) -> x.netsLike(c, 0, 0), CIRCUITS);
        refused(Check.ARGUMENT, either, (x, c) -> x.netsLike(0, 0, c), CIRCUITS);
        refused(Check.ELEMENT, NO_NET, (x, n) -> x.netsLike(0, n, 1), NETS);
        refused(Check.ELEMENT, NO_NET, (x, n) -> x.netsLike(1, n, 0), 3);
        of(27, RefusalEdges::drawn);
        refused(Check.ARGUMENT, either, (x, c) -> x.partsLike(c, 0, 0), CIRCUITS);
        refused(Check.ARGUMENT, either, (x, c) -> x.partsLike(0, 0, c), CIRCUITS);
        refused(Check.ELEMENT, NO_PART, (x, p) -> x.partsLike(0, p, 1), PARTS);
        of(28, RefusalEdges::drawn);
        String oneOfBoth = "if one of both nets does not exist";
        refused(Check.ELEMENT, oneOfBoth, (x, n) -> x.areAlike(n, 0), NETS);
        refused(Check.ELEMENT, oneOfBoth, (x, n) -> x.areAlike(0, n), -1, 3, 4, 9, 10, LEAST, MOST);
        refused(Check.ELEMENT, oneOfBoth, (x, n) -> x.areAlike(n, n), -1, 3, 4, MOST);
    }

    private void byTrying() {
        String words = "if a circuit has more than 6 nets";
        for (int[] nets : new int[][] {{7, 6}, {6, 7}, {7, 7}, {10, 0}, {1, 10}, {10, 10}}) {
            of(30, () -> withNets(nets[0], nets[1]));
            refused(Check.UNSUPPORTED, words, (x, any) -> x.isMatchedByTrying(), 0);
            of(32, () -> withNets(nets[0], nets[1]));
            refused(Check.UNSUPPORTED, words, (x, n) -> x.netByTrying(n), 0, nets[0] - 1);
        }
        edges.due("six nets in both", "true 5", () -> withNets(6, 6).isMatchedByTrying() + " "
                + withNets(6, 6).netByTrying(5));
        edges.due("six nets and none", false, () -> withNets(6, 0).isMatchedByTrying());
        edges.due("more than six, found from the classes", "true 6", () -> withNets(7, 7).isMatched() + " "
                + withNets(7, 7).matchedNet(6));
    }

    private void matchedNets() {
        of(31, RefusalEdges::matching);
        refused(Check.ELEMENT, NO_NET, (x, n) -> x.matchedNet(n), NETS);
        of(32, RefusalEdges::matching);
        refused(Check.ELEMENT, NO_NET, (x, n) -> x.netByTrying(n), NETS);
        of(31, RefusalEdges::drawn);
        refused(Check.STATE, NO_MATCH, (x, n) -> x.matchedNet(n), 0, 3);
        of(32, RefusalEdges::drawn);
        refused(Check.STATE, NO_MATCH, (x, n) -> x.netByTrying(n), 0, 3);
        of(31, () -> withNets(3, 2));
        refused(Check.STATE, NO_MATCH, (x, n) -> x.matchedNet(n), 0, 2);
        of(32, () -> withNets(2, 3));
        refused(Check.STATE, NO_MATCH, (x, n) -> x.netByTrying(n), 0, 1);
    }

    private void matchedParts() {
        of(33, RefusalEdges::matching);
        refused(Check.ELEMENT, NO_PART, (x, p) -> x.matchedPart(p), PARTS);
        of(34, RefusalEdges::matching);
        refused(Check.ELEMENT, NO_PART, (x, p) -> x.matchedPin(p, 0), PARTS);
        refused(Check.INDEX, NO_PIN, (x, p) -> x.matchedPin(0, p), -1, 2, 3, LEAST, MOST);
        refused(Check.INDEX, NO_PIN, (x, p) -> x.matchedPin(2, p), -1, 2, 3, LEAST, MOST);
        refused(Check.INDEX, NO_PIN, (x, p) -> x.matchedPin(3, p), -1, 3, 4, LEAST, MOST);
        of(33, RefusalEdges::drawn);
        refused(Check.STATE, NO_MATCH, (x, p) -> x.matchedPart(p), 0, 2, 3);
        of(34, RefusalEdges::drawn);
        refused(Check.STATE, NO_MATCH, (x, p) -> x.matchedPin(3, p), 0, 1, 2);
    }

    private void differences() {
        int[] beyondTwo = {-1, 2, 3, 40, LEAST, MOST};
        Supplier<Netcompare> two = () -> Draw.both(1, "a=0", "b=0");
        of(36, two);
        refused(Check.INDEX, NO_DIFFERENCE, (x, i) -> x.differenceKind(i), beyondTwo);
        of(37, two);
        refused(Check.INDEX, NO_DIFFERENCE, (x, i) -> x.differenceMember(i), beyondTwo);
        of(38, two);
        refused(Check.INDEX, NO_DIFFERENCE, (x, i) -> x.differenceDistance(i), beyondTwo);
        of(39, two);
        refused(Check.INDEX, NO_DIFFERENCE, (x, i) -> x.differenceSize(i, 0), beyondTwo);
        refused(Check.INDEX, NO_DIFFERENCE, (x, i) -> x.differenceSize(i, 1), beyondTwo);
        refused(Check.ARGUMENT, NO_CIRCUIT, (x, c) -> x.differenceSize(0, c), CIRCUITS);
        refused(Check.ARGUMENT, NO_CIRCUIT, (x, c) -> x.differenceSize(1, c), CIRCUITS);
        noDifferences(RefusalEdges::matching);
        noDifferences(Netcompare::new);
    }

    private void noDifferences(Supplier<Netcompare> objects) {
        of(36, objects);
        refused(Check.INDEX, NO_DIFFERENCE, (x, i) -> x.differenceKind(i), 0);
        of(37, objects);
        refused(Check.INDEX, NO_DIFFERENCE, (x, i) -> x.differenceMember(i), 0);
        of(38, objects);
        refused(Check.INDEX, NO_DIFFERENCE, (x, i) -> x.differenceDistance(i), 0);
        of(39, objects);
        refused(Check.INDEX, NO_DIFFERENCE, (x, i) -> x.differenceSize(i, 1), 0);
    }

    private void shares() {
        of(40, Netcompare::new);
        refused(Check.ARITHMETIC, "if there are no classes", (x, any) -> x.equalShare(), 0);
        edges.due("one wished net", 0.0f, () -> withNets(1, 0).equalShare());
        edges.due("one drawn net", 0.0f, () -> withNets(0, 1).equalShare());
        of(41, RefusalEdges::drawn);
        refused(Check.ARGUMENT, NO_CIRCUIT, (x, c) -> x.meanDistance(c), CIRCUITS);
        of(41, () -> Draw.both(3, "r1:0:1", "d1:1:2"));
        refused(Check.ARITHMETIC, "if there are none", (x, c) -> x.meanDistance(c), 0, 1);
        of(41, Netcompare::new);
        refused(Check.ARITHMETIC, "if there are none", (x, c) -> x.meanDistance(c), 0, 1);
        of(41, () -> Draw.both(1, "a=0", ""));
        refused(Check.ARITHMETIC, "if there are none", (x, c) -> x.meanDistance(c), 1);
        edges.due("a port in the wished one alone", 0.0, () -> Draw.both(1, "a=0", "").meanDistance(0));
    }
}
