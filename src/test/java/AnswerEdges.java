/** What the promises about the circuits themselves say that their calls return, at its edges. */
final class AnswerEdges {
    private static final String CHAIN = "r1:0:1 r1:1:2 r1:2:3 r1:3:4 r1:4:5 r1:5:6 r1:6:7 r1:7:8 r1:8:9 ";

    private final Edges edges;

    AnswerEdges(Edges edges) {
        this.edges = edges;
    }

    void run() {
        allCallsOfAnObject();
        newObject();
        numbersOfNetsAndParts();
        lettersBefore();
        partsLeft();
        valuesAndNetsBefore();
        swappedPins();
        copies();
        joining();
        counts();
        partsAsTheyAre();
        netsAsTheyAre();
        distances();
        labels();
        means();
        sums();
    }

    private void returns(int promise, String words) {
        edges.sentence("Promise " + promise, words);
    }

    private void allCallsOfAnObject() {
        edges.sentence("What it is", "An object is used for at most 512 calls after it has been made");
        Netcompare x = Draw.both(10, CHAIN + "d1:9:0 a=0", CHAIN + "d1:9:0 a=0");
        int calls = 42;
        boolean isRight = true;
        while (calls < 510) {
            int value = 1 + calls % 3;
            isRight &= x.setValue(1, 0, value) > 0 && x.isMatched() == (value == 1);
            calls += 2;
        }
        boolean wasRight = isRight;
        edges.due("all calls but two", true, () -> wasRight);
        edges.due("the call 511", true, () -> x.setValue(1, 0, 1) > 0);
        edges.due("the call 512", true, () -> x.isMatched());
    }

    private void newObject() {
        edges.sentence("Promise 1", "Creates two circuits without nets and parts.");
        Netcompare x = new Netcompare();
        edges.due("no nets", "0 0", () -> x.nets(0) + " " + x.nets(1));
        edges.due("no parts", "0 0", () -> x.parts(0) + " " + x.parts(1));
        edges.due("no classes", "0 0 0", () -> x.rounds() + " " + x.netClasses() + " " + x.partClasses());
        edges.due("no differences", 0, () -> x.differences());
        edges.due("a match of nothing", "true true", () -> x.isMatched() + " " + x.isMatchedByTrying());
        edges.due("no net 0", Check.ELEMENT, () -> x.portOf(0, 0));
        edges.due("no part 0", Check.ELEMENT, () -> x.kindOf(1, 0));
        edges.due("the first net", "0 0", () -> x.addNet(0) + " " + x.addNet(1));
        edges.due("no port", '-', () -> x.portOf(0, 0));
        edges.due("another object has none", 0, () -> new Netcompare().nets(0));
    }

    private void numbersOfNetsAndParts() {
        Netcompare x = new Netcompare();
        returns(2, "Returns the number of the net.");
        edges.due("first", 0, () -> x.addNet(0));
        edges.due("second", 1, () -> x.addNet(0));
        edges.due("first of the other circuit", 0, () -> x.addNet(1));
        edges.due("tenth", 9, () -> Draw.one(9, "").addNet(0));
        returns(4, "Returns the number of the part.");
        edges.due("first", 0, () -> x.addPart(0, 'r', 1, 0, 1, -1));
        edges.due("second", 1, () -> x.addPart(0, 't', 1, 0, 1, 1));
        edges.due("first of the other circuit", 0, () -> x.addPart(1, 'd', 1, 0, 0, -1));
        edges.due("tenth", 9, () -> Draw.part(Draw.one(1, "c1:0:0 ".repeat(9)), 0, "c1:0:0"));
        edges.sentence("Promise 4", "otherwise -1");
        for (char kind : "rcd".toCharArray()) {
            edges.due(kind + " with -1", 0, () -> Draw.one(1, "").addPart(0, kind, 1, 0, 0, -1));
            edges.due(kind + " with a net", Check.ARGUMENT, () -> Draw.one(1, "").addPart(0, kind, 1, 0, 0, 0));
        }
        edges.due("t with -1", Check.ELEMENT, () -> Draw.one(1, "").addPart(0, 't', 1, 0, 0, -1));
    }

    private void lettersBefore() {
        returns(3, "Returns the letter before, or '-'.");
        Netcompare x = Draw.both(2, "", "");
        for (int circuit = 0; circuit < 2; circuit++) {
            int at = circuit;
            edges.due("none before", '-', () -> x.setPort(at, 1, 'a'));
            edges.due("the first letter before", 'a', () -> x.setPort(at, 1, 'f'));
            edges.due("the last letter before", 'f', () -> x.setPort(at, 1, '-'));
            edges.due("ended before", '-', () -> x.setPort(at, 1, '-'));
            edges.due("none on the other net", '-', () -> x.portOf(at, 0));
        }
        edges.sentence("Promise 3", "the letter, or '-' to end it");
        edges.due("'-' on two nets", "--", () -> "" + x.setPort(0, 0, '-') + x.setPort(0, 1, '-'));
        edges.due("the sign ahead of '-'", Check.ARGUMENT, () -> x.setPort(0, 0, ','));
        edges.due("the sign behind '-'", Check.ARGUMENT, () -> x.setPort(0, 0, '.'));
    }

    private void partsLeft() {
        returns(5, "Returns the number of parts that are not removed.");
        Netcompare x = Draw.one(1, "r1:0:0 ".repeat(10));
        for (int left = 9; left >= 0; left--) {
            int part = (left * 7) % 10;
            edges.due("removed " + part, left, () -> x.removePart(0, part));
        }
        edges.due("none is left", 0, () -> x.parts(0));
    }

    private void valuesAndNetsBefore() {
        Netcompare x = Draw.one(10, "t999:0:5:9 r1:3:3");
        returns(6, "Returns the value before.");
        edges.due("the greatest value", 999, () -> x.setValue(0, 0, 1));
        edges.due("the least value", 1, () -> x.setValue(0, 0, 1));
        edges.due("the same value", 1, () -> x.setValue(0, 0, 999));
        edges.due("that of another part", 1, () -> x.valueOf(0, 1));
        returns(7, "Returns the net before.");
        edges.due("the first net", 0, () -> x.rewire(0, 0, 0, 9));
        edges.due("the middle net", 5, () -> x.rewire(0, 0, 1, 5));
        edges.due("the last net", 9, () -> x.rewire(0, 0, 2, 0));
        edges.due("all pins behind it", "t999:9:5:0 r1:3:3--------", () -> Draw.labels(x, 0));
    }

    private void swappedPins() {
        returns(8, "Returns the net on which the one of them with the lower number is then.");
        Netcompare x = Draw.one(10, "r1:0:9 c1:9:0 t1:5:0:9 t1:0:4:4");
        edges.due("a resistor", 9, () -> x.swapPins(0, 0));
        edges.due("a capacitor", 0, () -> x.swapPins(0, 1));
        edges.due("a transistor", 9, () -> x.swapPins(0, 2));
        edges.due("a transistor with both on one net", 4, () -> x.swapPins(0, 3));
        edges.due("all of them", "r1:9:0 c1:0:9 t1:5:9:0 t1:0:4:4------", () -> Draw.labels(x, 0));
        edges.due("back again", 0, () -> x.swapPins(0, 2));
    }

    private void copies() {
        edges.sentence("Promise 9", "Makes the drawn circuit the same as the wished one, with all numbers.");
        Netcompare x = Draw.both(3, "r1:0:1 r2:0:1 t3:0:1:2 a=0 b=2", "c1:0:0 d1:1:1 c2:2:2 d2:0:0 c=0 a=1");
        x.removePart(0, 1);
        x.addNet(1);
        x.copyWished();
        edges.due("nets and ports", "3 a-b", () -> x.nets(1) + " " + x.portOf(1, 0) + x.portOf(1, 1) + x.portOf(1, 2));
        edges.due("parts and removed parts", "r1:0:1- t3:0:1:2-------", () -> Draw.labels(x, 1));
        edges.due("the wished one stays", "r1:0:1- t3:0:1:2-------", () -> Draw.labels(x, 0));
        edges.due("the same pins can be swapped", 2, () -> x.swapPins(1, 2));
        edges.due("only those", "t3:0:2:1", () -> Draw.labels(x, 1).substring(8, 16));
        edges.due("still the same circuit", true, () -> x.isMatched());
        edges.due("a diode stays one", Check.UNSUPPORTED, () -> copied("r1:0:1", "d1:0:1").swapPins(1, 0));
        edges.due("a resistor is one again", 1, () -> copied("d1:0:1", "r1:0:1").swapPins(1, 0));
        edges.due("the next part", 3, () -> Draw.part(x, 1, "d1:0:0"));
        edges.due("the next net", 3, () -> x.addNet(1));
        returns(9, "Returns the number of parts that are not removed.");
        edges.due("none", 0, () -> new Netcompare().copyWished());
        edges.due("two of three", 2, () -> x.copyWished());
        edges.due("ten", 10, () -> Draw.one(1, "d1:0:0 ".repeat(10)).copyWished());
        edges.due("none instead of one", "0 0 0", () -> {
            Netcompare drawn = new Netcompare();
            drawn.addNet(1);
            Draw.part(drawn, 1, "r1:0:0");
            return drawn.copyWished() + " " + drawn.nets(1) + " " + drawn.parts(1);
        });
    }

    private static Netcompare copied(String drawn, String wished) {
        Netcompare x = Draw.both(2, wished, drawn);
        x.copyWished();
        return x;
    }

    private void joining() {
        returns(10, "Returns 's' if they are in series, 'p' if they are in parallel, '-' otherwise.");
        Netcompare x = Draw.one(3, "r1:0:1 r2:1:2 c1:0:2 c2:2:0");
        edges.due("in series", 's', () -> x.canJoin(0, 1, 0));
        edges.due("in parallel", 'p', () -> x.canJoin(0, 3, 2));
        edges.due("neither", '-', () -> x.canJoin(0, 1, 2));
        edges.due("a part and itself", '-', () -> x.canJoin(0, 2, 2));
        edges.due("nothing is joined by asking", 4, () -> x.parts(0));
        returns(11, "Returns the joined value.");
        edges.due("of a series", 3, () -> x.join(0, 1, 0));
        edges.due("of parallel ones", 3, () -> x.join(0, 2, 3));
        edges.due("the least one", 1, () -> Draw.one(2, "r1:0:1 r1:0:1").join(0, 0, 1));
        edges.due("the greatest one", 999, () -> Draw.one(2, "c999:0:1 c999:0:1").join(0, 0, 1));
        returns(12, "Returns how many times parts are joined.");
        edges.due("never", 0, () -> x.joinAll(0));
        edges.due("without nets", 0, () -> x.joinAll(1));
        edges.due("once", 1, () -> Draw.one(2, "r1:0:1 r1:0:1").joinAll(0));
        edges.due("nine times", 9, () -> Draw.one(2, "r1:0:1 ".repeat(10)).joinAll(0));
    }

    private void counts() {
        Netcompare x = Draw.both(10, "r1:0:0 ".repeat(10), "");
        x.removePart(0, 3);
        returns(13, "Returns the number of nets.");
        edges.due("ten", 10, () -> x.nets(0));
        edges.due("none", 0, () -> Draw.one(1, "").nets(1));
        returns(14, "Returns the number of parts.");
        edges.due("nine of ten", 9, () -> x.parts(0));
        edges.due("ten", 10, () -> Draw.one(1, "d1:0:0 ".repeat(10)).parts(0));
        edges.due("none", 0, () -> x.parts(1));
    }

    private void partsAsTheyAre() {
        Netcompare x = Draw.one(10, "r1:0:9 c999:9:0 d500:4:5 t42:9:0:5");
        returns(15, "Returns the kind.");
        edges.due("all kinds", "rcdt",
                () -> "" + x.kindOf(0, 0) + x.kindOf(0, 1) + x.kindOf(0, 2) + x.kindOf(0, 3));
        returns(16, "Returns the value.");
        edges.due("the least value", 1, () -> x.valueOf(0, 0));
        edges.due("the greatest value", 999, () -> x.valueOf(0, 1));
        returns(17, "Returns the net.");
        edges.due("first and last net", "09", () -> "" + x.netOf(0, 0, 0) + x.netOf(0, 0, 1));
        edges.due("all of a transistor", "905", () -> "" + x.netOf(0, 3, 0) + x.netOf(0, 3, 1) + x.netOf(0, 3, 2));
    }

    private void netsAsTheyAre() {
        Netcompare x = Draw.one(10, CHAIN + "a=0");
        returns(18, "Returns the number of pins.");
        edges.due("one", 1, () -> x.pinsOn(0, 9));
        edges.due("two", 2, () -> x.pinsOn(0, 8));
        edges.due("none", 0, () -> Draw.one(1, "").pinsOn(0, 0));
        edges.due("thirty", 30, () -> Draw.one(1, "t1:0:0:0 ".repeat(10)).pinsOn(0, 0));
        returns(19, "Returns the letter, or '-' if it is no port.");
        edges.due("the first letter", 'a', () -> x.portOf(0, 0));
        edges.due("no port", '-', () -> x.portOf(0, 9));
        x.setPort(0, 9, 'f');
        edges.due("the last letter", 'f', () -> x.portOf(0, 9));
        x.setPort(0, 9, '-');
        edges.due("no port any longer", '-', () -> x.portOf(0, 9));
    }

    private void distances() {
        Netcompare x = Draw.one(10, CHAIN + "a=0");
        returns(20, "Returns the number of steps, 99 if none can be reached.");
        edges.due("none", 0, () -> x.distance(0, 0));
        edges.due("nine", 9, () -> x.distance(0, 9));
        x.removePart(0, 8);
        edges.due("not reached", 99, () -> x.distance(0, 9));
        edges.due("the last one reached", 8, () -> x.distance(0, 8));
        x.setPort(0, 0, '-');
        edges.due("no port in the circuit", 99, () -> x.distance(0, 0));
    }

    private void labels() {
        String all = "r1:0:0 c9:0:9 d10:9:0 r99:1:2 r100:3:4 c999:5:6 t1:0:0:0 t9:9:9:9 t99:7:8:9 t999:9:9:9";
        int[] lengths = {6, 6, 7, 7, 8, 8, 8, 8, 9, 10};
        returns(21, "Returns the number of characters.");
        for (int part = 0; part < 10; part++) {
            int number = part;
            edges.due("part " + part, lengths[part], () -> Draw.one(10, all).labelLength(0, number));
        }
        returns(22, "Returns the character.");
        edges.due("all characters", all, () -> Draw.labels(Draw.one(10, all), 0));
        Netcompare x = Draw.one(3, "r47:0:2");
        returns(21, "its kind, its value, and for each pin in order \":\" and its net, as \"r47:0:2\"");
        edges.due("the document's own label", "r47:0:2---------", () -> Draw.labels(x, 0));
        returns(22, "Returns the character.");
        edges.due("the first", 'r', () -> x.labelAt(0, 0, 0));
        edges.due("the last", '2', () -> x.labelAt(0, 0, 6));
        x.setValue(0, 0, 700);
        x.swapPins(0, 0);
        edges.due("behind changes", "r700:2:0---------", () -> Draw.labels(x, 0));
    }

    private void means() {
        returns(41, "Returns the mean.");
        edges.due("the port alone", 0.0, () -> Draw.one(5, "a=3").meanDistance(0));
        edges.due("without those that reach none", 0.5, () -> Draw.one(4, "r1:0:1 r1:2:3 f=1").meanDistance(0));
        edges.due("a chain of ten", 4.5, () -> Draw.one(10, CHAIN + "a=0").meanDistance(0));
        edges.due("no whole number of thirds", 2.0 / 3.0, () -> Draw.one(3, "t1:0:1:2 a=1").meanDistance(0));
        edges.due("of the drawn one", 0.0, () -> Draw.both(2, "", "b=1").meanDistance(1));
    }

    private void sums() {
        returns(42, "Returns the sum.");
        Netcompare x = Draw.one(2, "r999:0:1 ".repeat(10));
        edges.due("the greatest one", 9990L, () -> x.valueSum(0));
        x.removePart(0, 9);
        edges.due("without a removed part", 8991L, () -> x.valueSum(0));
        edges.due("no parts", 0L, () -> x.valueSum(1));
        edges.due("the least one", 1L, () -> Draw.one(1, "d1:0:0").valueSum(0));
        x.joinAll(0);
        edges.due("of a joined part", 109L, () -> x.valueSum(0));
    }
}
