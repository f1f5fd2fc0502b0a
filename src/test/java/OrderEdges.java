import java.util.function.Function;

/** The sentences under "Exceptions". */
final class OrderEdges {
    private static final String HERE = "Exceptions";

    private final Edges edges;

    OrderEdges(Edges edges) {
        this.edges = edges;
    }

    void run() {
        nothingIsChanged();
        edges.sentence(HERE, "If several exceptions apply, the one that is listed first is thrown.");
        addingNetsAndPorts();
        addingParts();
        changingParts();
        rewiring();
        joining();
        readingParts();
        reading();
        asking();
        matches();
        pins();
    }

    /** Nets and parts in all places of both circuits; the diode 1 and the resistor 2 are removed. */
    private static Netcompare full() {
        String parts = "r1:0:1 d2:0:1 r3:1:2 t4:0:1:2 d5:3:4 " + "c6:5:6 ".repeat(5);
        Netcompare x = Draw.both(10, parts + "a=0 f=9", parts + "b=3");
        for (int circuit = 0; circuit < 2; circuit++) {
            x.removePart(circuit, 1);
            x.removePart(circuit, 2);
        }
        return x;
    }

    private void first(String call, String exception, Function<Netcompare, Object> asked) {
        Netcompare x = full();
        edges.due(call, exception, () -> asked.apply(x));
        edges.due("all behind " + call, State.of(full()), () -> State.of(x));
    }

    private void nothingIsChanged() {
        edges.sentence(HERE, "A method that throws an exception changes nothing.");
        first("an eleventh net", Check.STATE, x -> x.addNet(1));
        first("an eleventh part", Check.STATE, x -> Draw.part(x, 1, "r1:0:1"));
        first("a letter that another net has", Check.STATE, x -> x.setPort(0, 9, 'a'));
        first("a removed part", Check.ELEMENT, x -> x.setValue(0, 2, 1));
        first("a value too small", Check.ARGUMENT, x -> x.setValue(0, 0, 0));
        first("a net too high", Check.UNSUPPORTED, x -> x.rewire(0, 3, 1, 10));
        first("a diode swapped", Check.UNSUPPORTED, x -> x.swapPins(0, 4));
        first("parts that cannot be joined", Check.UNSUPPORTED, x -> x.join(0, 0, 5));
        first("a circuit too high", Check.ARGUMENT, x -> x.joinAll(2));
        first("too many nets to try", Check.UNSUPPORTED, x -> x.isMatchedByTrying());
        first("no match", Check.STATE, x -> x.matchedNet(0));
        Netcompare asked = Draw.both(2, "r1:0:1", "r1:0:1");
        edges.due("a match", "true 0", () -> asked.isMatched() + " " + asked.differences());
        edges.due("refused behind it", Check.ARGUMENT, () -> asked.setValue(1, 0, 1000));
        edges.due("the same match", "true 0 1", () -> asked.isMatched() + " " + asked.differences() + " "
                + asked.matchedPin(0, 1));
    }

    private void addingNetsAndPorts() {
        edges.sentence(HERE, "the one that is listed first is thrown");
        first("addNet: no circuit, though both are full", Check.ARGUMENT, x -> x.addNet(2));
        first("setPort: no circuit, no net", Check.ARGUMENT, x -> x.setPort(2, 10, 'c'));
        first("setPort: no letter, no net", Check.ARGUMENT, x -> x.setPort(0, 10, 'g'));
        first("setPort: no circuit, letter of another net", Check.ARGUMENT, x -> x.setPort(-1, 1, 'a'));
        first("setPort: no net, letter of another net", Check.ELEMENT, x -> x.setPort(0, 10, 'a'));
        first("setPort: net -1, letter of another net", Check.ELEMENT, x -> x.setPort(0, -1, 'f'));
        first("setPort: everything", Check.ARGUMENT, x -> x.setPort(2, 10, 'g'));
    }

    private void addingParts() {
        first("addPart: no circuit, ten parts", Check.ARGUMENT, x -> x.addPart(2, 'r', 1, 0, 1, -1));
        first("addPart: no kind, ten parts", Check.ARGUMENT, x -> x.addPart(0, 'x', 1, 0, 1, -1));
        first("addPart: no value, ten parts", Check.ARGUMENT, x -> x.addPart(0, 'r', 0, 0, 1, -1));
        first("addPart: a third net, ten parts", Check.ARGUMENT, x -> x.addPart(0, 'r', 1, 0, 1, 2));
        first("addPart: no circuit, no net", Check.ARGUMENT, x -> x.addPart(2, 'r', 1, 10, 1, -1));
        first("addPart: no kind, no net", Check.ARGUMENT, x -> x.addPart(0, 'x', 1, 10, 1, -1));
        first("addPart: no value, no net", Check.ARGUMENT, x -> x.addPart(0, 'r', 1000, 0, 10, -1));
        first("addPart: a third net that is none", Check.ARGUMENT, x -> x.addPart(0, 'd', 1, 0, 1, 10));
        first("addPart: a third net, no first net", Check.ARGUMENT, x -> x.addPart(0, 'c', 1, -1, 1, 0));
        first("addPart: no value, no third net", Check.ARGUMENT, x -> x.addPart(0, 't', 0, 0, 1, -1));
        first("addPart: no first net, ten parts", Check.ELEMENT, x -> x.addPart(0, 'r', 1, 10, 1, -1));
        first("addPart: no second net, ten parts", Check.ELEMENT, x -> x.addPart(0, 'r', 1, 0, -1, -1));
        first("addPart: no third net, ten parts", Check.ELEMENT, x -> x.addPart(0, 't', 1, 0, 1, -1));
        first("addPart: everything", Check.ARGUMENT, x -> x.addPart(2, 'x', 0, 10, 10, 10));
    }

    private void changingParts() {
        first("removePart: no circuit, no part", Check.ARGUMENT, x -> x.removePart(2, 10));
        first("removePart: no circuit, removed", Check.ARGUMENT, x -> x.removePart(-1, 1));
        first("setValue: no circuit, no part", Check.ARGUMENT, x -> x.setValue(2, 10, 5));
        first("setValue: no value, no part", Check.ARGUMENT, x -> x.setValue(0, 10, 0));
        first("setValue: no value, removed", Check.ARGUMENT, x -> x.setValue(0, 1, 1000));
        first("swapPins: no circuit, no part", Check.ARGUMENT, x -> x.swapPins(2, 10));
        first("swapPins: no circuit, a diode", Check.ARGUMENT, x -> x.swapPins(2, 4));
        first("swapPins: a removed diode", Check.ELEMENT, x -> x.swapPins(0, 1));
    }

    private void rewiring() {
        first("rewire: no circuit, no part", Check.ARGUMENT, x -> x.rewire(2, 10, 0, 0));
        first("rewire: no circuit, no pin", Check.ARGUMENT, x -> x.rewire(2, 0, 3, 0));
        first("rewire: no circuit, no net", Check.ARGUMENT, x -> x.rewire(2, 0, 0, 10));
        first("rewire: no part, no pin", Check.ELEMENT, x -> x.rewire(0, 10, 3, 0));
        first("rewire: removed, no pin", Check.ELEMENT, x -> x.rewire(0, 1, 2, 0));
        first("rewire: removed, no net", Check.ELEMENT, x -> x.rewire(0, 1, 0, 10));
        first("rewire: no part, no net", Check.ELEMENT, x -> x.rewire(0, -1, 0, -1));
        first("rewire: no pin, no net", Check.INDEX, x -> x.rewire(0, 0, 2, 10));
        first("rewire: pin -1, net -1", Check.INDEX, x -> x.rewire(0, 0, -1, -1));
        first("rewire: everything but the circuit", Check.ELEMENT, x -> x.rewire(0, 10, 3, 10));
        first("rewire: everything", Check.ARGUMENT, x -> x.rewire(2, 10, 3, 10));
    }

    private void joining() {
        first("canJoin: no circuit, no part", Check.ARGUMENT, x -> x.canJoin(2, 10, 10));
        first("canJoin: no circuit, removed", Check.ARGUMENT, x -> x.canJoin(-1, 0, 1));
        first("join: no circuit, no part", Check.ARGUMENT, x -> x.join(2, 10, 10));
        first("join: no circuit, not to be joined", Check.ARGUMENT, x -> x.join(2, 0, 0));
        first("join: a removed part and itself", Check.ELEMENT, x -> x.join(0, 2, 2));
        first("join: a part and a removed one of another kind", Check.ELEMENT, x -> x.join(0, 0, 1));
        first("join: no part, not to be joined", Check.ELEMENT, x -> x.join(0, 10, 4));
        first("join: not to be joined, no other part", Check.ELEMENT, x -> x.join(0, 4, -1));
        first("join: everything", Check.ARGUMENT, x -> x.join(2, 1, 1));
    }

    private void readingParts() {
        first("kindOf: no circuit, no part", Check.ARGUMENT, x -> x.kindOf(2, 10));
        first("valueOf: no circuit, removed", Check.ARGUMENT, x -> x.valueOf(2, 1));
        first("netOf: no circuit, no part", Check.ARGUMENT, x -> x.netOf(2, 10, 0));
        first("netOf: no circuit, no pin", Check.ARGUMENT, x -> x.netOf(2, 0, 3));
        first("netOf: no part, no pin", Check.ELEMENT, x -> x.netOf(0, 10, 3));
        first("netOf: removed, no pin", Check.ELEMENT, x -> x.netOf(0, 1, 2));
        first("labelLength: no circuit, no part", Check.ARGUMENT, x -> x.labelLength(2, 10));
        first("labelAt: no circuit, no part", Check.ARGUMENT, x -> x.labelAt(2, 10, 0));
        first("labelAt: no circuit, no index", Check.ARGUMENT, x -> x.labelAt(2, 0, 99));
        first("labelAt: no part, no index", Check.ELEMENT, x -> x.labelAt(0, 10, -1));
        first("labelAt: removed, no index", Check.ELEMENT, x -> x.labelAt(0, 1, 6));
    }

    private void reading() {
        first("pinsOn: no circuit, no net", Check.ARGUMENT, x -> x.pinsOn(2, 10));
        first("portOf: no circuit, no net", Check.ARGUMENT, x -> x.portOf(2, 10));
        first("distance: no circuit, no net", Check.ARGUMENT, x -> x.distance(2, 10));
        edges.due("meanDistance: no circuit, no port", Check.ARGUMENT, () -> new Netcompare().meanDistance(2));
    }

    private void asking() {
        first("netsLike: no circuit, no net", Check.ARGUMENT, x -> x.netsLike(2, 10, 0));
        first("netsLike: no net, no circuit to count", Check.ARGUMENT, x -> x.netsLike(0, 10, 2));
        first("netsLike: net -1, circuit -1 to count", Check.ARGUMENT, x -> x.netsLike(0, -1, -1));
        first("partsLike: no circuit, no part", Check.ARGUMENT, x -> x.partsLike(2, 10, 0));
        first("partsLike: no part, no circuit to count", Check.ARGUMENT, x -> x.partsLike(0, 10, 2));
        first("partsLike: removed, circuit -1 to count", Check.ARGUMENT, x -> x.partsLike(0, 1, -1));
        first("differenceSize: no difference, no circuit", Check.INDEX, x -> x.differenceSize(99, 2));
        first("differenceSize: difference -1, circuit -1", Check.INDEX, x -> x.differenceSize(-1, -1));
        edges.due("differenceSize of no differences, no circuit", Check.INDEX,
                () -> new Netcompare().differenceSize(0, 2));
    }

    private void matches() {
        first("matchedNet: no net, no match", Check.ELEMENT, x -> x.matchedNet(10));
        first("matchedNet: net -1, no match", Check.ELEMENT, x -> x.matchedNet(-1));
        first("netByTrying: no net, too many nets, no match", Check.ELEMENT, x -> x.netByTrying(10));
        first("netByTrying: too many nets, no match", Check.UNSUPPORTED, x -> x.netByTrying(0));
        edges.due("netByTrying: no net, too many nets", Check.ELEMENT,
                () -> Draw.both(7, "", "").netByTrying(7));
        edges.due("netByTrying: no net, no match", Check.ELEMENT, () -> Draw.one(1, "").netByTrying(1));
        edges.due("netByTrying: too many drawn nets, no match", Check.UNSUPPORTED, () -> {
            Netcompare x = Draw.both(6, "", "");
            x.addNet(1);
            return x.netByTrying(5);
        });
    }

    private void pins() {
        first("matchedPart: no part, no match", Check.ELEMENT, x -> x.matchedPart(10));
        first("matchedPart: removed, no match", Check.ELEMENT, x -> x.matchedPart(1));
        first("matchedPin: no part, no pin, no match", Check.ELEMENT, x -> x.matchedPin(10, 3));
        first("matchedPin: removed, no pin, no match", Check.ELEMENT, x -> x.matchedPin(1, 2));
        first("matchedPin: no part, no match", Check.ELEMENT, x -> x.matchedPin(-1, 0));
        first("matchedPin: no pin, no match", Check.INDEX, x -> x.matchedPin(0, 2));
        first("matchedPin: pin -1, no match", Check.INDEX, x -> x.matchedPin(3, -1));
        edges.due("matchedPin: no part, no pin, though matched", Check.ELEMENT,
                () -> Draw.both(2, "r1:0:1", "r1:0:1").matchedPin(1, 2));
    }
}
