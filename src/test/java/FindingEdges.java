/** What the promises about colours, matches and differences say that their calls return, at its edges. */
final class FindingEdges {
    private static final String CHAIN = "r1:0:1 r1:1:2 r1:2:3 r1:3:4 r1:4:5 r1:5:6 r1:6:7 r1:7:8 r1:8:9 ";

    private final Edges edges;

    FindingEdges(Edges edges) {
        this.edges = edges;
    }

    void run() {
        rounds();
        classes();
        likeNets();
        likeParts();
        matches();
        matchedNets();
        matchedParts();
        matchedPins();
        pinsThatAreRight();
        countOfDifferences();
        differences();
        distancesOfDifferences();
        sizesOfDifferences();
        shares();
    }

    private void returns(int promise, String words) {
        edges.sentence("Promise " + promise, words);
    }

    private void rounds() {
        returns(23, "Returns the number of rounds that tell more colours apart.");
        edges.due("none", 0, () -> new Netcompare().rounds());
        edges.due("none told apart", 0, () -> Draw.one(2, "r1:0:1").rounds());
        edges.due("one", 1, () -> Draw.one(2, "d1:0:1").rounds());
        edges.due("eight", 8, () -> Draw.one(10, CHAIN + "a=0").rounds());
        returns(23, "Returns the number of rounds.");
        edges.due("the same, asked again", "2 2", () -> {
            Netcompare x = Draw.one(5, "r1:0:1 r1:1:2 r1:2:3 r1:3:4");
            return x.rounds() + " " + x.rounds();
        });
    }

    private void classes() {
        Netcompare apart = Draw.both(10, loops('r'), loops('c'));
        returns(24, "Returns the number of classes.");
        edges.due("none", 0, () -> new Netcompare().netClasses());
        edges.due("one", 1, () -> Draw.both(10, "", "").netClasses());
        edges.due("twenty", 20, () -> apart.netClasses());
        returns(25, "Returns the number of classes.");
        edges.due("none", 0, () -> Draw.both(10, "", "").partClasses());
        edges.due("one", 1, () -> Draw.both(1, "r1:0:0", "r1:0:0").partClasses());
        edges.due("twenty", 20, () -> apart.partClasses());
    }

    /** Ten nets, each with a part of its own value. */
    private static String loops(char kind) {
        StringBuilder text = new StringBuilder();
        for (int net = 0; net < 10; net++) {
            text.append(' ').append(kind).append(net + 1).append(":" + net).append(":" + net);
        }
        return text.toString();
    }

    private void likeNets() {
        Netcompare x = Draw.both(10, "r1:0:1", "");
        returns(26, "Returns the number of nets.");
        edges.due("the net itself is one of them", 2, () -> x.netsLike(0, 1, 0));
        edges.due("none in the other circuit", 0, () -> x.netsLike(0, 1, 1));
        edges.due("ten in the other circuit", 10, () -> x.netsLike(0, 9, 1));
        edges.due("eight, of a drawn net", 8, () -> x.netsLike(1, 0, 0));
        edges.due("ten, of a drawn net", 10, () -> x.netsLike(1, 9, 1));
        returns(28, "Returns true if they are.");
        edges.due("they are", true, () -> x.areAlike(2, 0));
        edges.due("the last ones are", true, () -> x.areAlike(9, 9));
        edges.due("they are not", false, () -> x.areAlike(1, 1));
        edges.due("the second wished one and the only drawn one", true, () -> fewer(1).areAlike(1, 0));
        edges.due("the only wished one and the second drawn one", true, () -> fewer(0).areAlike(0, 1));
    }

    /** Two nets, but one in the circuit named. */
    private static Netcompare fewer(int circuit) {
        Netcompare x = Draw.both(1, "", "");
        x.addNet(1 - circuit);
        return x;
    }

    private void likeParts() {
        Netcompare x = Draw.both(1, "r1:0:0 ".repeat(10), "r1:0:0 ".repeat(10));
        returns(27, "Returns the number of parts.");
        edges.due("ten", 10, () -> x.partsLike(0, 9, 0));
        edges.due("ten of the other circuit", 10, () -> x.partsLike(0, 9, 1));
        x.removePart(1, 0);
        x.setPort(1, 0, 'a');
        edges.due("nine, of a drawn part", 9, () -> x.partsLike(1, 9, 1));
        edges.due("none in the other circuit", 0, () -> x.partsLike(1, 9, 0));
        edges.due("the part itself", 1, () -> Draw.one(1, "d1:0:0 d2:0:0").partsLike(0, 1, 0));
    }

    private void matches() {
        Netcompare x = Draw.both(6, "r1:0:1", "r1:4:5");
        returns(29, "Returns true if there is.");
        edges.due("there is", true, () -> x.isMatched());
        edges.due("there is with ten nets", true, () -> Draw.both(10, "", "").isMatched());
        edges.due("there is none", false, () -> Draw.both(6, "r1:0:1", "r1:4:4").isMatched());
        edges.due("alike, but there is none", false, () -> alike().isMatched());
        returns(30, "Returns true if there is.");
        edges.due("there is", true, () -> x.isMatchedByTrying());
        edges.due("there is none", false, () -> Draw.both(6, "r1:0:1", "r1:4:4").isMatchedByTrying());
        edges.due("alike, but there is none", false, () -> alike().isMatchedByTrying());
        edges.due("there is none with six nets and five", false, () -> {
            Netcompare y = Draw.both(5, "", "");
            y.addNet(0);
            return y.isMatchedByTrying();
        });
    }

    /** Nets and parts of one class each, but a ring on one side and two on the other. */
    private static Netcompare alike() {
        return Draw.both(6, "r1:0:1 r1:1:2 r1:2:3 r1:3:4 r1:4:5 r1:5:0", "r1:0:1 r1:1:2 r1:2:0 r1:3:4 r1:4:5 r1:5:3");
    }

    private void matchedNets() {
        Netcompare x = Draw.both(6, "r1:0:1 a=0", "r1:5:0 a=5");
        int[] all = {5, 0, 1, 2, 3, 4};
        returns(31, "Returns the net of the drawn circuit.");
        for (int number = 0; number < 6; number++) {
            int net = number;
            edges.due("of the net " + net, all[net], () -> x.matchedNet(net));
        }
        edges.due("the last of ten", 0, () -> Draw.both(10, "a=9", "a=0").matchedNet(9));
        returns(32, "Returns the net of the drawn circuit.");
        for (int number = 0; number < 6; number++) {
            int net = number;
            edges.due("of the net " + net, all[net], () -> x.netByTrying(net));
        }
    }

    private void matchedParts() {
        Netcompare x = Draw.both(2, "d1:0:1 ".repeat(9) + "t1:0:1:1", "t1:0:1:1 " + "d1:0:1 ".repeat(9));
        returns(33, "Returns the part of the drawn circuit.");
        edges.due("the last one to the first one", 0, () -> x.matchedPart(9));
        edges.due("the first one to the second one", 1, () -> x.matchedPart(0));
        edges.due("the next to last one to the last one", 9, () -> x.matchedPart(8));
    }

    private void matchedPins() {
        returns(34, "Returns the pin of the drawn part.");
        edges.due("a diode", "01", () -> pins(Draw.both(2, "d1:0:1", "d1:1:0"), 2));
        edges.due("a resistor as it is", "01", () -> pins(Draw.both(2, "r1:0:1 a=0", "r1:0:1 a=0"), 2));
        edges.due("a resistor swapped", "10", () -> pins(Draw.both(2, "r1:0:1 a=0", "r1:1:0 a=0"), 2));
        edges.due("a capacitor swapped", "10", () -> pins(Draw.both(2, "c1:0:1 a=0", "c1:1:0 a=0"), 2));
        edges.due("a transistor as it is", "012", () -> pins(Draw.both(3, "t1:0:1:2 a=1", "t1:0:1:2 a=1"), 3));
        edges.due("a transistor swapped", "021", () -> pins(Draw.both(3, "t1:0:1:2 a=1", "t1:0:2:1 a=1"), 3));
    }

    private void pinsThatAreRight() {
        returns(34, "the same one if the net is right for all pins of the part");
        edges.due("right both ways", "01", () -> pins(Draw.both(1, "r1:0:0", "r1:0:0"), 2));
        edges.due("a transistor right both ways", "012", () -> pins(Draw.both(2, "t1:0:1:1", "t1:1:0:0"), 3));
        edges.due("a transistor on one net", "012", () -> pins(Draw.both(1, "t1:0:0:0", "t1:0:0:0"), 3));
        returns(34, "and otherwise with the two that can be swapped swapped");
        edges.due("the pin 0 right alone", "021", () -> pins(Draw.both(2, "t1:0:0:1 a=0", "t1:0:1:0 a=0"), 3));
    }

    private static String pins(Netcompare x, int count) {
        StringBuilder all = new StringBuilder();
        for (int pin = 0; pin < count; pin++) {
            all.append(x.matchedPin(0, pin));
        }
        return all.toString();
    }

    private void countOfDifferences() {
        returns(35, "Returns the number of differences.");
        edges.due("none", 0, () -> new Netcompare().differences());
        edges.due("none, though there is no match", 0, () -> alike().differences());
        edges.due("one", 1, () -> Draw.one(1, "").differences());
        edges.due("forty", 40, () -> Draw.both(10, loops('r'), loops('c')).differences());
    }

    private void differences() {
        Netcompare most = Draw.both(10, loops('r'), loops('c'));
        returns(36, "Returns 'n' for a class of nets, 'p' for a class of parts.");
        edges.due("the first one", 'n', () -> most.differenceKind(0));
        edges.due("the last one of nets", 'n', () -> most.differenceKind(19));
        edges.due("the first one of parts", 'p', () -> most.differenceKind(20));
        edges.due("the last one", 'p', () -> most.differenceKind(39));
        returns(37, "Returns the lowest number in the wished circuit, or 100 plus the lowest one in the drawn circuit "
                + "if it has none in the wished one.");
        int[] members = {0, 9, 100, 109};
        for (int place = 0; place < 4; place++) {
            int index = place / 2 * 10 + place % 2 * 9;
            int member = members[place];
            edges.due("nets at " + index, member, () -> most.differenceMember(index));
            edges.due("parts at " + (20 + index), member, () -> most.differenceMember(20 + index));
        }
    }

    private void distancesOfDifferences() {
        returns(38, "Returns the distance.");
        Netcompare chain = Draw.one(10, CHAIN + "a=0");
        edges.due("none", 0, () -> chain.differenceDistance(0));
        edges.due("eight", 8, () -> chain.differenceDistance(17));
        edges.due("nine", 9, () -> chain.differenceDistance(18));
        edges.due("no port", 99, () -> Draw.one(1, "").differenceDistance(0));
    }

    private void sizesOfDifferences() {
        returns(39, "Returns the number of members.");
        Netcompare x = Draw.both(10, "r1:0:0 ".repeat(10), "");
        edges.due("all of them", "n0@99:1/0 n1@99:9/10 p0@99:10/0", () -> DifferenceEdges.all(x));
        edges.due("ten nets", 10, () -> x.differenceSize(1, 1));
        edges.due("ten parts", 10, () -> x.differenceSize(2, 0));
        edges.due("no part", 0, () -> x.differenceSize(2, 1));
    }

    private void shares() {
        returns(40, "Returns the share.");
        edges.due("all", 1.0f, () -> Draw.both(1, "r1:0:0", "r1:0:0").equalShare());
        edges.due("none", 0.0f, () -> Draw.one(1, "").equalShare());
        edges.due("one of three", 1.0f / 3.0f, () -> Draw.both(2, "a=0", "b=0").equalShare());
        Netcompare x = Draw.both(3, "a=0 b=1", "a=0 b=1");
        x.addNet(1);
        edges.due("two of three", 2.0f / 3.0f, () -> x.equalShare());
        edges.due("nets and parts together", 1.0f / 5.0f, () -> Draw.both(2, "r1:0:0 a=1", "c1:0:0 a=1").equalShare());
    }
}
