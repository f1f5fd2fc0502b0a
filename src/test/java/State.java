import java.util.function.Supplier;

/** All that an object tells of itself, as one text: what two equal objects must have in common. */
final class State {
    private final Netcompare x;
    private final StringBuilder told = new StringBuilder();

    private State(Netcompare x) {
        this.x = x;
    }

    /** At most some 300 calls; the last ones add, so that the object is used up. */
    static String of(Netcompare x) {
        State state = new State(x);
        for (int circuit = 0; circuit < 2; circuit++) {
            state.tellCircuit(circuit);
        }
        state.tellColours();
        state.tellMatch();
        state.tellDifferences();
        for (int circuit = 0; circuit < 2; circuit++) {
            state.tellNextNumbers(circuit);
        }
        return state.told.toString();
    }

    private void tell(Supplier<Object> answer) {
        told.append(Check.answerOf(answer)).append(' ');
    }

    private void tellCircuit(int circuit) {
        tell(() -> x.nets(circuit));
        tell(() -> x.parts(circuit));
        tell(() -> x.valueSum(circuit));
        tell(() -> x.meanDistance(circuit));
        for (int number = 0; number < x.nets(circuit); number++) {
            int net = number;
            tell(() -> x.portOf(circuit, net));
            tell(() -> x.pinsOn(circuit, net));
            tell(() -> x.distance(circuit, net));
            tell(() -> x.netsLike(circuit, net, 1 - circuit));
        }
        for (int part = 0; part < 10; part++) {
            tellPart(circuit, part);
        }
    }

    private void tellPart(int circuit, int part) {
        String kind = Check.answerOf(() -> x.kindOf(circuit, part));
        told.append('\n').append(part).append(' ').append(kind).append(' ');
        if (kind.length() > 1) {
            return;
        }
        tell(() -> x.valueOf(circuit, part));
        for (int number = 0; number < (kind.equals("t") ? 3 : 2); number++) {
            int pin = number;
            tell(() -> x.netOf(circuit, part, pin));
        }
        tell(() -> x.partsLike(circuit, part, 1 - circuit));
    }

    private void tellColours() {
        tell(() -> x.rounds());
        tell(() -> x.netClasses());
        tell(() -> x.partClasses());
        tell(() -> x.equalShare());
    }

    private void tellMatch() {
        told.append('\n');
        tell(() -> x.isMatched());
        tell(() -> x.isMatchedByTrying());
        for (int number = 0; number < x.nets(0); number++) {
            int net = number;
            tell(() -> x.matchedNet(net));
            tell(() -> x.netByTrying(net));
        }
        for (int number = 0; number < 10; number++) {
            int part = number;
            tell(() -> x.matchedPart(part));
        }
    }

    private void tellDifferences() {
        told.append('\n');
        tell(() -> x.differences());
        for (int number = 0; number < Math.min(10, x.differences()); number++) {
            int index = number;
            tell(() -> x.differenceKind(index));
            tell(() -> x.differenceMember(index));
            tell(() -> x.differenceDistance(index));
            tell(() -> x.differenceSize(index, 0));
            tell(() -> x.differenceSize(index, 1));
        }
    }

    /** The numbers that are given next are seen in no other way. */
    private void tellNextNumbers(int circuit) {
        tell(() -> x.addPart(circuit, 'r', 1, 0, 0, -1));
        tell(() -> x.addNet(circuit));
    }
}
