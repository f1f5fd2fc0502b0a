import java.util.NoSuchElementException;

/** A checker that compares a drawn circuit with the wished one. */
public final class Netcompare {
    /** The most nets, and the most parts, of a circuit. */
    private static final int MOST = 10;
    private static final int MOST_PINS = 3;
    private static final int MOST_VALUE = 999;
    private static final int MOST_TRIED_NETS = 6;
    private static final int FAR = 99;
    private static final char NONE = '-';

    private final Pair pair;
    private final Match match;
    private final Match triedMatch;

    public Netcompare() {
        pair = new Pair();
        match = new Match(pair);
        triedMatch = new Match(pair);
    }

    public int addNet(int circuit) throws IllegalArgumentException, IllegalStateException {
        int net = circuitAt(circuit).newNet();
        if (net < 0) {
            throw new IllegalStateException("the circuit has all its nets");
        }
        forget();
        return net;
    }

    public char setPort(int circuit, int net, char letter)
            throws IllegalArgumentException, NoSuchElementException, IllegalStateException {
        Circuit at = circuitAt(circuit);
        if (letter != NONE && (letter < 'a' || letter > 'f')) {
            throw new IllegalArgumentException("no such letter");
        }
        requireNet(circuit, net);
        if (letter != NONE && at.hasLetterBeside(net, letter)) {
            throw new IllegalStateException("another net has the letter");
        }
        forget();
        return at.changeLetter(net, letter);
    }

    public int addPart(int circuit, char kind, int value, int first, int second, int third)
            throws IllegalArgumentException, NoSuchElementException, IllegalStateException {
        Circuit at = circuitAt(circuit);
        requireKind(kind);
        requireValue(value);
        if (kind != 't' && third != -1) {
            throw new IllegalArgumentException("a third net without a third pin");
        }
        requireNet(circuit, first);
        requireNet(circuit, second);
        if (kind == 't') {
            requireNet(circuit, third);
        }
        int part = at.newPart(kind, value, first, second, third);
        if (part < 0) {
            throw new IllegalStateException("all parts of the circuit have been added");
        }
        forget();
        return part;
    }

    public int removePart(int circuit, int part) throws IllegalArgumentException, NoSuchElementException {
        Circuit at = circuitAt(circuit);
        requirePart(circuit, part);
        forget();
        at.remove(part);
        return at.countParts();
    }

    public int setValue(int circuit, int part, int value) throws IllegalArgumentException, NoSuchElementException {
        Circuit at = circuitAt(circuit);
        requireValue(value);
        requirePart(circuit, part);
        forget();
        return at.changeValue(part, value);
    }

    public int rewire(int circuit, int part, int pin, int net)
            throws IllegalArgumentException, NoSuchElementException, IndexOutOfBoundsException,
            UnsupportedOperationException {
        Circuit at = circuitAt(circuit);
        requirePart(circuit, part);
        requirePin(circuit, part, pin);
        if (!at.hasNet(net)) {
            throw new UnsupportedOperationException("no such net");
        }
        forget();
        return at.changeNet(part, pin, net);
    }

    public int swapPins(int circuit, int part)
            throws IllegalArgumentException, NoSuchElementException, UnsupportedOperationException {
        Circuit at = circuitAt(circuit);
        requirePart(circuit, part);
        if (at.firstSwappable(part) >= MOST_PINS) {
            throw new UnsupportedOperationException("the pins of a diode stay");
        }
        forget();
        return at.swap(part);
    }

    public int copyWished() {
        forget();
        pair.drawn.copyFrom(pair.wished);
        return pair.drawn.countParts();
    }

    public char canJoin(int circuit, int one, int other) throws IllegalArgumentException, NoSuchElementException {
        Circuit at = circuitAt(circuit);
        requirePart(circuit, one);
        requirePart(circuit, other);
        return at.wayToJoin(one, other);
    }

    public int join(int circuit, int one, int other)
            throws IllegalArgumentException, NoSuchElementException, UnsupportedOperationException {
        Circuit at = circuitAt(circuit);
        requirePart(circuit, one);
        requirePart(circuit, other);
        int joined = at.joinPair(one, other);
        if (joined == 0) {
            throw new UnsupportedOperationException("neither in series nor in parallel");
        }
        forget();
        return joined;
    }

    public int joinAll(int circuit) throws IllegalArgumentException {
        Circuit at = circuitAt(circuit);
        forget();
        return at.joinWhilePossible();
    }

    public int nets(int circuit) throws IllegalArgumentException {
        return circuitAt(circuit).netCount;
    }

    public int parts(int circuit) throws IllegalArgumentException {
        return circuitAt(circuit).countParts();
    }

    public char kindOf(int circuit, int part) throws IllegalArgumentException, NoSuchElementException {
        requirePart(circuit, part);
        return circuitAt(circuit).kindAt(part);
    }

    public int valueOf(int circuit, int part) throws IllegalArgumentException, NoSuchElementException {
        requirePart(circuit, part);
        return circuitAt(circuit).valueAt(part);
    }

    public int netOf(int circuit, int part, int pin)
            throws IllegalArgumentException, NoSuchElementException, IndexOutOfBoundsException {
        requirePart(circuit, part);
        requirePin(circuit, part, pin);
        return circuitAt(circuit).netAt(part, pin);
    }

    public int pinsOn(int circuit, int net) throws IllegalArgumentException, NoSuchElementException {
        requireNet(circuit, net);
        return circuitAt(circuit).countPins(net);
    }

    public char portOf(int circuit, int net) throws IllegalArgumentException, NoSuchElementException {
        requireNet(circuit, net);
        return circuitAt(circuit).letterAt(net);
    }

    public int distance(int circuit, int net) throws IllegalArgumentException, NoSuchElementException {
        requireNet(circuit, net);
        Circuit at = circuitAt(circuit);
        at.measure();
        return at.stepsAt(net);
    }

    public int labelLength(int circuit, int part) throws IllegalArgumentException, NoSuchElementException {
        requirePart(circuit, part);
        return circuitAt(circuit).writeLabel(part);
    }

    public char labelAt(int circuit, int part, int index)
            throws IllegalArgumentException, NoSuchElementException, IndexOutOfBoundsException {
        requirePart(circuit, part);
        Circuit at = circuitAt(circuit);
        if (index < 0 || index >= at.writeLabel(part)) {
            throw new IndexOutOfBoundsException("no such index");
        }
        return at.signAt(index);
    }

    public int rounds() {
        pair.colour();
        return pair.roundCount;
    }

    public int netClasses() {
        pair.colour();
        return pair.ofNets.classCount;
    }

    public int partClasses() {
        pair.colour();
        return pair.ofParts.classCount;
    }

    public int netsLike(int circuit, int net, int of) throws IllegalArgumentException, NoSuchElementException {
        requireCircuit(of);
        requireNet(circuit, net);
        pair.colour();
        return pair.ofNets.sizeOf(pair.ofNets.colourAt(slot(circuit, net)), of);
    }

    public int partsLike(int circuit, int part, int of) throws IllegalArgumentException, NoSuchElementException {
        requireCircuit(of);
        requirePart(circuit, part);
        pair.colour();
        return pair.ofParts.sizeOf(pair.ofParts.colourAt(slot(circuit, part)), of);
    }

    public boolean areAlike(int wished, int drawn) throws NoSuchElementException {
        requireNet(0, wished);
        requireNet(1, drawn);
        pair.colour();
        return pair.ofNets.isSameColour(wished, drawn);
    }

    public boolean isMatched() {
        match.find();
        return match.isFound;
    }

    public boolean isMatchedByTrying() throws UnsupportedOperationException {
        requireFewNets();
        triedMatch.findByTrying();
        return triedMatch.isFound;
    }

    public int matchedNet(int net) throws NoSuchElementException, IllegalStateException {
        requireNet(0, net);
        match.find();
        requireFound(match.isFound);
        return match.imageAt(net);
    }

    public int netByTrying(int net)
            throws NoSuchElementException, UnsupportedOperationException, IllegalStateException {
        requireNet(0, net);
        requireFewNets();
        triedMatch.findByTrying();
        requireFound(triedMatch.isFound);
        return triedMatch.imageAt(net);
    }

    public int matchedPart(int part) throws NoSuchElementException, IllegalStateException {
        requirePart(0, part);
        match.find();
        requireFound(match.isFound);
        return match.partImageAt(part);
    }

    public int matchedPin(int part, int pin)
            throws NoSuchElementException, IndexOutOfBoundsException, IllegalStateException {
        requirePart(0, part);
        requirePin(0, part, pin);
        match.find();
        requireFound(match.isFound);
        return match.pinImage(part, pin);
    }

    public int differences() {
        pair.colour();
        return pair.unequal.count;
    }

    public char differenceKind(int index) throws IndexOutOfBoundsException {
        requireDifference(index);
        return pair.unequal.isOfParts(index) ? 'p' : 'n';
    }

    public int differenceMember(int index) throws IndexOutOfBoundsException {
        requireDifference(index);
        return pair.unequal.memberOf(index);
    }

    public int differenceDistance(int index) throws IndexOutOfBoundsException {
        requireDifference(index);
        return pair.unequal.distanceOf(index);
    }

    public int differenceSize(int index, int circuit) throws IndexOutOfBoundsException, IllegalArgumentException {
        requireDifference(index);
        requireCircuit(circuit);
        return pair.sizeOfUnequal(index, circuit);
    }

    public float equalShare() throws ArithmeticException {
        pair.colour();
        int all = pair.countClasses();
        if (all == 0) {
            throw new ArithmeticException("no classes");
        }
        return (float) (all - pair.unequal.count) / (float) all;
    }

    public double meanDistance(int circuit) throws IllegalArgumentException, ArithmeticException {
        Circuit at = circuitAt(circuit);
        at.measure();
        int sum = 0;
        int reaching = 0;
        for (int net = 0; net < at.netCount; net++) {
            if (at.stepsAt(net) != FAR) {
                sum += at.stepsAt(net);
                reaching++;
            }
        }
        if (reaching == 0) {
            throw new ArithmeticException("no net reaches a port");
        }
        return (double) sum / (double) reaching;
    }

    public long valueSum(int circuit) throws IllegalArgumentException {
        Circuit at = circuitAt(circuit);
        long sum = 0;
        for (int part = 0; part < MOST; part++) {
            sum += at.valueAt(part);
        }
        return sum;
    }

    private Circuit circuitAt(int circuit) {
        requireCircuit(circuit);
        return pair.circuit(circuit);
    }

    private static void requireCircuit(int circuit) {
        if (circuit != 0 && circuit != 1) {
            throw new IllegalArgumentException("no such circuit");
        }
    }

    private static void requireKind(char kind) {
        if (kind != 'r' && kind != 'c' && kind != 'd' && kind != 't') {
            throw new IllegalArgumentException("no such kind");
        }
    }

    private static void requireValue(int value) {
        if (value < 1 || value > MOST_VALUE) {
            throw new IllegalArgumentException("no such value");
        }
    }

    private void requireNet(int circuit, int net) {
        if (!circuitAt(circuit).hasNet(net)) {
            throw new NoSuchElementException("no such net");
        }
    }

    private void requirePart(int circuit, int part) {
        if (!circuitAt(circuit).hasPart(part)) {
            throw new NoSuchElementException("no such part");
        }
    }

    private void requirePin(int circuit, int part, int pin) {
        if (circuitAt(circuit).netAt(part, pin) < 0) {
            throw new IndexOutOfBoundsException("no such pin");
        }
    }

    private void requireFewNets() {
        if (!pair.hasFewNets()) {
            throw new UnsupportedOperationException("too many nets to try all ways");
        }
    }

    private static void requireFound(boolean isFound) {
        if (!isFound) {
            throw new IllegalStateException("no match");
        }
    }

    private void requireDifference(int index) {
        pair.colour();
        if (index < 0 || index >= pair.unequal.count) {
            throw new IndexOutOfBoundsException("no such difference");
        }
    }

    /** Every change ends what has been found out; it is found out anew when it is asked for. */
    private void forget() {
        pair.isColoured = false;
        match.isSearched = false;
        triedMatch.isSearched = false;
    }

    /** Where a net or a part of a circuit stands in rows over both circuits. */
    private static int slot(int circuit, int number) {
        return circuit * MOST + number;
    }

    /**
     * The nets and parts of one circuit. What is asked about a net, a part or a pin that is not there has an answer
     * too, so that nobody has to ask first.
     */
    static final class Circuit {
        /** The longest label, as "t999:0:1:2". */
        private static final int LONGEST_LABEL = 10;

        private int netCount;
        private int addedParts;
        private final char[] letter = new char[MOST];
        private final char[] kind = new char[MOST];
        /** 0 where no part is: none has been added there yet, or it is removed. */
        private final int[] value = new int[MOST];
        /** The nets of the pins of each part; -1 where no pin is. */
        private final int[][] net = new int[MOST][MOST_PINS];
        /** The distance of each net to a port, as measured last. */
        private final int[] steps = new int[MOST];
        /** The label that was written last. */
        private final char[] label = new char[LONGEST_LABEL];
        private int signCount;

        Circuit() {
            for (int part = 0; part < MOST; part++) {
                for (int pin = 0; pin < MOST_PINS; pin++) {
                    net[part][pin] = -1;
                }
            }
        }

        boolean hasNet(int number) {
            return number >= 0 && number < netCount;
        }

        boolean hasPart(int part) {
            return valueAt(part) > 0;
        }

        /** The letter of a net; '-' if it is no port. */
        char letterAt(int number) {
            return number >= 0 && number < MOST && number < netCount ? letter[number] : NONE;
        }

        /** The kind of a part; '-' if it is not there. */
        char kindAt(int part) {
            return part >= 0 && part < MOST && value[part] > 0 ? kind[part] : NONE;
        }

        /** The value of a part; 0 if it is not there. */
        int valueAt(int part) {
            return part >= 0 && part < MOST ? value[part] : 0;
        }

        /** The net of a pin; -1 if it is not there. */
        int netAt(int part, int pin) {
            return part >= 0 && part < MOST && pin >= 0 && pin < MOST_PINS ? net[part][pin] : -1;
        }

        /** The distance of a net to a port, as measured last. */
        int stepsAt(int number) {
            return number >= 0 && number < MOST ? steps[number] : FAR;
        }

        boolean hasLetterBeside(int number, char wanted) {
            for (int other = 0; other < netCount; other++) {
                if (other != number && letterAt(other) == wanted) {
                    return true;
                }
            }
            return false;
        }

        /** Returns the number of the new net; -1 if there is no place for it. */
        int newNet() {
            int number = netCount;
            if (number >= MOST) {
                return -1;
            }
            letter[number] = NONE;
            netCount++;
            return number;
        }

        /** Returns the number of the new part; -1 if there is no place for it. */
        int newPart(char itsKind, int itsValue, int first, int second, int third) {
            int part = addedParts;
            if (part >= MOST) {
                return -1;
            }
            kind[part] = itsKind;
            value[part] = itsValue;
            net[part][0] = first;
            net[part][1] = second;
            net[part][2] = third;
            addedParts++;
            return part;
        }

        /** Returns the letter before. */
        char changeLetter(int number, char to) {
            char before = letterAt(number);
            if (number >= 0 && number < MOST) {
                letter[number] = to;
            }
            return before;
        }

        /** Returns the value before. */
        int changeValue(int part, int to) {
            int before = valueAt(part);
            if (part >= 0 && part < MOST) {
                value[part] = to;
            }
            return before;
        }

        /** Returns the net before. */
        int changeNet(int part, int pin, int to) {
            int before = netAt(part, pin);
            if (part >= 0 && part < MOST && pin >= 0 && pin < MOST_PINS) {
                net[part][pin] = to;
            }
            return before;
        }

        void remove(int part) {
            changeValue(part, 0);
            for (int pin = 0; pin < MOST_PINS; pin++) {
                changeNet(part, pin, -1);
            }
        }

        void copyFrom(Circuit other) {
            if (other == null) {
                return;
            }
            netCount = other.netCount;
            addedParts = other.addedParts;
            System.arraycopy(other.letter, 0, letter, 0, MOST);
            System.arraycopy(other.kind, 0, kind, 0, MOST);
            System.arraycopy(other.value, 0, value, 0, MOST);
            for (int part = 0; part < MOST; part++) {
                System.arraycopy(other.net[part], 0, net[part], 0, MOST_PINS);
            }
        }

        /** The lower one of the two pins that can be swapped; behind all pins if none can. */
        int firstSwappable(int part) {
            char its = kindAt(part);
            if (its == 't') {
                return 1;
            }
            return its == 'r' || its == 'c' ? 0 : MOST_PINS;
        }

        /** Swaps the pins that can be swapped, and returns the net on which the lower one is then. */
        int swap(int part) {
            int lower = firstSwappable(part);
            int before = changeNet(part, lower, netAt(part, lower + 1));
            changeNet(part, lower + 1, before);
            return netAt(part, lower);
        }

        int countParts() {
            int count = 0;
            for (int part = 0; part < MOST; part++) {
                if (value[part] > 0) {
                    count++;
                }
            }
            return count;
        }

        int countPins(int wanted) {
            int count = 0;
            for (int part = 0; part < MOST; part++) {
                for (int pin = 0; pin < MOST_PINS; pin++) {
                    if (net[part][pin] == wanted) {
                        count++;
                    }
                }
            }
            return count;
        }

        /** Measures the distances of all nets: in each pass those that are one step farther. */
        void measure() {
            for (int number = 0; number < MOST; number++) {
                steps[number] = letterAt(number) == NONE ? FAR : 0;
            }
            for (int far = 1; far < MOST; far++) {
                for (int part = 0; part < MOST; part++) {
                    if (nearest(part) == far - 1) {
                        stepOver(part, far);
                    }
                }
            }
        }

        private void stepOver(int part, int far) {
            for (int pin = 0; pin < MOST_PINS; pin++) {
                int number = netAt(part, pin);
                if (number >= 0 && number < MOST) {
                    steps[number] = Math.min(steps[number], far);
                }
            }
        }

        /** The least distance of the nets of a part. */
        int nearest(int part) {
            int least = FAR;
            for (int pin = 0; pin < MOST_PINS; pin++) {
                least = Math.min(least, stepsAt(netAt(part, pin)));
            }
            return least;
        }

        /** Whether no part joins a net to another one. */
        boolean isAlone(int number) {
            for (int part = 0; part < MOST; part++) {
                int pinsOnIt = 0;
                int pinsElsewhere = 0;
                for (int pin = 0; pin < MOST_PINS; pin++) {
                    if (net[part][pin] == number) {
                        pinsOnIt++;
                    } else if (net[part][pin] >= 0) {
                        pinsElsewhere++;
                    }
                }
                if (pinsOnIt > 0 && pinsElsewhere > 0) {
                    return false;
                }
            }
            return true;
        }

        /** 's' for series, 'p' for parallel, '-' for neither. */
        char wayToJoin(int one, int other) {
            char its = kindAt(one);
            if (one == other || its != kindAt(other) || (its != 'r' && its != 'c')) {
                return NONE;
            }
            if (areParallel(one, other)) {
                return 'p';
            }
            return pinInSeries(one, other) >= 0 ? 's' : NONE;
        }

        private boolean areParallel(int one, int other) {
            int near = netAt(one, 0);
            int far = netAt(one, 1);
            return near != far && netAcross(other, near) == far;
        }

        /** The pin of one part on the net by which it is in series with another one, or -1. */
        private int pinInSeries(int one, int other) {
            for (int pin = 0; pin < 2; pin++) {
                int common = netAt(one, pin);
                int across = netAcross(other, common);
                if (letterAt(common) == NONE && countPins(common) == 2
                        && across >= 0 && across != netAt(one, 1 - pin)) {
                    return pin;
                }
            }
            return -1;
        }

        /** The net of the other pin of a part with two pins, one of them on a net; -1 if none is on it. */
        private int netAcross(int part, int near) {
            if (netAt(part, 0) == near) {
                return netAt(part, 1);
            }
            return netAt(part, 1) == near ? netAt(part, 0) : -1;
        }

        /** Joins two parts into the one with the lower number; returns the joined value, 0 if they can't be joined. */
        int joinPair(int one, int other) {
            char way = wayToJoin(one, other);
            if (way == NONE) {
                return 0;
            }
            int kept = Math.min(one, other);
            int gone = Math.max(one, other);
            boolean isSum = (way == 's') == (kindAt(kept) == 'r');
            int joined = joinedValue(valueAt(kept), valueAt(gone), isSum);
            if (way == 's') {
                spanBoth(kept, gone);
            }
            changeValue(kept, joined);
            remove(gone);
            return joined;
        }

        /** Puts a part in series with another one on the other nets of both. */
        private void spanBoth(int kept, int gone) {
            int pin = pinInSeries(kept, gone);
            int own = netAt(kept, 1 - pin);
            int across = netAcross(gone, netAt(kept, pin));
            changeNet(kept, 0, own);
            changeNet(kept, 1, across);
        }

        private static int joinedValue(int one, int other, boolean isSum) {
            int sum = one + other;
            if (isSum || sum <= 0) {
                return Math.min(MOST_VALUE, sum);
            }
            return Math.max(1, one * other / sum);
        }

        /** Each joining removes a part, so that there are fewer of them than parts. */
        int joinWhilePossible() {
            int times = 0;
            while (times < MOST && joinFirstPair()) {
                times++;
            }
            return times;
        }

        private boolean joinFirstPair() {
            for (int one = 0; one < MOST; one++) {
                for (int other = one + 1; other < MOST; other++) {
                    if (joinPair(one, other) != 0) {
                        return true;
                    }
                }
            }
            return false;
        }

        /** Writes the label of a part, and returns its length. */
        int writeLabel(int part) {
            int its = valueAt(part);
            signCount = 0;
            writeSign(kindAt(part));
            if (its >= 100) {
                writeDigit(its / 100);
            }
            if (its >= 10) {
                writeDigit(its / 10 % 10);
            }
            writeDigit(its % 10);
            for (int pin = 0; pin < MOST_PINS; pin++) {
                if (netAt(part, pin) >= 0) {
                    writeSign(':');
                    writeDigit(netAt(part, pin));
                }
            }
            return signCount;
        }

        private void writeDigit(int number) {
            writeSign((char) ('0' + number));
        }

        private void writeSign(char sign) {
            if (signCount < LONGEST_LABEL) {
                label[signCount] = sign;
                signCount++;
            }
        }

        /** A sign of the label that was written last. */
        char signAt(int index) {
            return index >= 0 && index < LONGEST_LABEL && index < signCount ? label[index] : NONE;
        }
    }

    /** The nets, or the parts, of both circuits, told apart by rows of numbers: equal rows are of one colour. */
    static final class Members {
        private static final int SLOTS = 2 * MOST;
        /** A colour and all pins of a circuit: all of them can be on one net. */
        private static final int LONGEST_ROW = 1 + MOST * MOST_PINS;

        private final int[][] row = new int[SLOTS][LONGEST_ROW];
        /** 0 where there is no member. */
        private final int[] rowLength = new int[SLOTS];
        /** From 0, without gaps; -1 where there is no member. */
        private final int[] colour = new int[SLOTS];
        private final int[] distance = new int[SLOTS];
        private int classCount;

        void startRows() {
            for (int at = 0; at < SLOTS; at++) {
                rowLength[at] = 0;
            }
        }

        /** Puts a number so that the row rises from an index on: for numbers whose order tells nothing. */
        void put(int at, int number, int risingFrom) {
            if (at < 0 || at >= SLOTS || rowLength[at] >= LONGEST_ROW) {
                return;
            }
            int index = rowLength[at];
            while (index > 0 && index > risingFrom && row[at][index - 1] > number) {
                row[at][index] = row[at][index - 1];
                index--;
            }
            row[at][index] = number;
            rowLength[at]++;
        }

        void putDistance(int at, int steps) {
            if (at >= 0 && at < SLOTS) {
                distance[at] = steps;
            }
        }

        void colourByRows() {
            classCount = 0;
            for (int at = 0; at < SLOTS; at++) {
                if (rowLength[at] == 0) {
                    colour[at] = -1;
                } else {
                    int same = firstWithRowOf(at);
                    colour[at] = same < at ? colourAt(same) : classCount++;
                }
            }
        }

        private int firstWithRowOf(int at) {
            int other = 0;
            while (other < at && other < SLOTS && !haveSameRow(other, at)) {
                other++;
            }
            return other;
        }

        private boolean haveSameRow(int one, int other) {
            if (one < 0 || one >= SLOTS || other < 0 || other >= SLOTS || rowLength[one] != rowLength[other]) {
                return false;
            }
            for (int index = 0; index < rowLength[one] && index < LONGEST_ROW; index++) {
                if (row[one][index] != row[other][index]) {
                    return false;
                }
            }
            return true;
        }

        int colourAt(int at) {
            return at >= 0 && at < SLOTS ? colour[at] : -1;
        }

        boolean isSameColour(int ofWished, int ofDrawn) {
            return colourAt(slot(0, ofWished)) == colourAt(slot(1, ofDrawn));
        }

        int sizeOf(int itsColour, int circuit) {
            int size = 0;
            for (int number = 0; number < MOST; number++) {
                if (colourAt(slot(circuit, number)) == itsColour) {
                    size++;
                }
            }
            return size;
        }

        /** The first place of a class: wished members stand ahead of drawn ones. */
        int firstOf(int itsColour) {
            int at = 0;
            while (at < SLOTS - 1 && colour[at] != itsColour) {
                at++;
            }
            return at;
        }

        int distanceOf(int itsColour) {
            int least = FAR;
            for (int at = 0; at < SLOTS; at++) {
                if (colour[at] == itsColour) {
                    least = Math.min(least, distance[at]);
                }
            }
            return least;
        }
    }

    /** The two circuits, and the colours of their nets and parts. */
    static final class Pair {
        private static final int MOST_COLOURS = 4 * MOST;
        /** Stands for a pin that can be swapped, whichever one it is. */
        private static final int SWAPPABLE = MOST_PINS;

        private final Circuit wished = new Circuit();
        private final Circuit drawn = new Circuit();
        private final Members ofNets = new Members();
        private final Members ofParts = new Members();
        private final Differences unequal = new Differences();
        private int roundCount;
        /** Whether the colours are those of the circuits as they are now. */
        private boolean isColoured;

        Circuit circuit(int number) {
            return number == 0 ? wished : drawn;
        }

        /** Whether the nets of both circuits are so few that all ways to map them can be tried. */
        boolean hasFewNets() {
            return wished.netCount <= MOST_TRIED_NETS && drawn.netCount <= MOST_TRIED_NETS;
        }

        int countClasses() {
            return ofNets.classCount + ofParts.classCount;
        }

        /** Each counted round makes at least one colour more, so that there are fewer of them than colours. */
        void colour() {
            if (isColoured) {
                return;
            }
            wished.measure();
            drawn.measure();
            startColours();
            roundCount = 0;
            while (roundCount < MOST_COLOURS && goRound()) {
                roundCount++;
            }
            unequal.clear();
            collectUnequal(false);
            collectUnequal(true);
            isColoured = true;
        }

        private void startColours() {
            ofNets.startRows();
            ofParts.startRows();
            writeFirstRows(0);
            writeFirstRows(1);
            ofNets.colourByRows();
            ofParts.colourByRows();
        }

        private void writeFirstRows(int number) {
            Circuit from = circuit(number);
            for (int net = 0; net < from.netCount; net++) {
                int at = slot(number, net);
                ofNets.put(at, from.letterAt(net), 0);
                ofNets.put(at, from.countPins(net), 1);
                ofNets.putDistance(at, from.stepsAt(net));
            }
            for (int part = 0; part < MOST; part++) {
                if (from.hasPart(part)) {
                    int at = slot(number, part);
                    ofParts.put(at, from.kindAt(part), 0);
                    ofParts.put(at, from.valueAt(part), 1);
                    ofParts.putDistance(at, from.nearest(part));
                }
            }
        }

        /** Returns whether the round tells more colours apart; all rows stand before a colour changes. */
        private boolean goRound() {
            int before = countClasses();
            ofNets.startRows();
            ofParts.startRows();
            writeRows(0);
            writeRows(1);
            ofNets.colourByRows();
            ofParts.colourByRows();
            return countClasses() > before;
        }

        private void writeRows(int number) {
            Circuit from = circuit(number);
            for (int net = 0; net < from.netCount; net++) {
                int at = slot(number, net);
                ofNets.put(at, ofNets.colourAt(at), 0);
            }
            for (int part = 0; part < MOST; part++) {
                if (from.hasPart(part)) {
                    writePart(number, part);
                }
            }
        }

        private void writePart(int number, int part) {
            Circuit from = circuit(number);
            int at = slot(number, part);
            int colour = ofParts.colourAt(at);
            int firstSwappable = from.firstSwappable(part);
            ofParts.put(at, colour, 0);
            for (int pin = 0; pin < MOST_PINS && from.netAt(part, pin) >= 0; pin++) {
                int atNet = slot(number, from.netAt(part, pin));
                boolean canSwap = pin >= firstSwappable;
                ofNets.put(atNet, colour * (SWAPPABLE + 1) + (canSwap ? SWAPPABLE : pin), 1);
                ofParts.put(at, ofNets.colourAt(atNet), 1 + (canSwap ? firstSwappable : pin));
            }
        }

        private void collectUnequal(boolean isOfParts) {
            Members members = isOfParts ? ofParts : ofNets;
            for (int colour = 0; colour < members.classCount; colour++) {
                if (members.sizeOf(colour, 0) != members.sizeOf(colour, 1)) {
                    unequal.add(members.distanceOf(colour), isOfParts, members.firstOf(colour));
                }
            }
        }

        /** How many members an unequal class has in a circuit. */
        int sizeOfUnequal(int index, int circuit) {
            Members members = unequal.isOfParts(index) ? ofParts : ofNets;
            return members.sizeOf(members.colourAt(unequal.slotOf(index)), circuit);
        }
    }

    /** The unequal classes in their order. */
    static final class Differences {
        private static final int MOST_DIFFERENCES = 4 * MOST;
        /** What is added to the number of a member in the drawn circuit. */
        private static final int DRAWN = 100;
        /** What a key of a class of parts has more than one of nets: above all members. */
        private static final int OF_PARTS = 200;
        private static final int ONE_STEP = 2 * OF_PARTS;

        /** Distance, nets or parts, and member as one number, so that the order is that of the numbers. */
        private final int[] key = new int[MOST_DIFFERENCES];
        private int count;

        void clear() {
            count = 0;
        }

        /** Adds a class, told by the slot of its first member. */
        void add(int distance, boolean isOfParts, int slot) {
            if (count >= MOST_DIFFERENCES) {
                return;
            }
            int member = slot < MOST ? slot : DRAWN + slot - MOST;
            int newKey = distance * ONE_STEP + (isOfParts ? OF_PARTS : 0) + member;
            int index = count;
            while (index > 0 && key[index - 1] > newKey) {
                key[index] = key[index - 1];
                index--;
            }
            key[index] = newKey;
            count++;
        }

        private int keyAt(int index) {
            return index >= 0 && index < MOST_DIFFERENCES ? key[index] : 0;
        }

        boolean isOfParts(int index) {
            return keyAt(index) % ONE_STEP >= OF_PARTS;
        }

        int memberOf(int index) {
            return keyAt(index) % OF_PARTS;
        }

        int distanceOf(int index) {
            return keyAt(index) / ONE_STEP;
        }

        int slotOf(int index) {
            int member = memberOf(index);
            return member < DRAWN ? slot(0, member) : slot(1, member - DRAWN);
        }
    }

    /** A way to map the nets and parts of the wished circuit to those of the drawn one. */
    static final class Match {
        private final Pair pair;
        /** The drawn net of each wished one, or -1 as long as it is mapped to none. */
        private final int[] image = new int[MOST];
        /** The other way round: the wished net of each drawn one, or -1. */
        private final int[] origin = new int[MOST];
        private final int[] partImage = new int[MOST];
        private boolean isFound;
        private boolean isSearched;

        Match(Pair pair) {
            this.pair = pair == null ? new Pair() : pair;
        }

        /** Finds the first match; a net can only be mapped to one of its class, and no class can be unequal. */
        void find() {
            if (!isSearched) {
                pair.colour();
                unbindAll();
                isFound = pair.unequal.count == 0 && mapNetsFrom(this, 0);
                isSearched = true;
            }
        }

        /** Finds the first match without the classes. */
        void findByTrying() {
            if (!isSearched) {
                unbindAll();
                isFound = pair.wished.netCount == pair.drawn.netCount
                        && pair.wished.countParts() == pair.drawn.countParts() && tryNetsFrom(this, 0);
                isSearched = true;
            }
        }

        int imageAt(int net) {
            return net >= 0 && net < MOST ? image[net] : -1;
        }

        int partImageAt(int part) {
            return part >= 0 && part < MOST ? partImage[part] : -1;
        }

        private boolean isFree(int to) {
            return to >= 0 && to < MOST && origin[to] < 0;
        }

        private void unbindAll() {
            for (int net = 0; net < MOST; net++) {
                image[net] = -1;
                origin[net] = -1;
            }
        }

        private void bind(int net, int to) {
            if (net >= 0 && net < MOST && to >= 0 && to < MOST) {
                image[net] = to;
                origin[to] = net;
            }
        }

        private void unbind(int net, int to) {
            if (net >= 0 && net < MOST && to >= 0 && to < MOST) {
                image[net] = -1;
                origin[to] = -1;
            }
        }

        /**
         * Maps a net and those behind it; the net is the depth too, and ends it. Free nets of one class that no part
         * joins to others are as good as one another: where the first of them fails, the others do.
         */
        private static boolean mapNetsFrom(Match match, int net) {
            if (match == null || net < 0) {
                return false;
            }
            if (net >= match.pair.wished.netCount || net >= MOST) {
                return match.mapParts();
            }
            boolean hasOneAloneFailed = false;
            for (int to = 0; to < match.pair.drawn.netCount; to++) {
                boolean isAlone = match.pair.drawn.isAlone(to);
                if (match.isFree(to) && match.pair.ofNets.isSameColour(net, to) && !(isAlone && hasOneAloneFailed)) {
                    match.bind(net, to);
                    if (match.mapParts() && mapNetsFrom(match, net + 1)) {
                        return true;
                    }
                    match.unbind(net, to);
                    hasOneAloneFailed = hasOneAloneFailed || isAlone;
                }
            }
            return false;
        }

        /** Maps a net and those behind it in all ways; the net is the depth too, and ends it. */
        private static boolean tryNetsFrom(Match match, int net) {
            if (match == null || net < 0 || !match.pair.hasFewNets()) {
                return false;
            }
            if (net >= match.pair.wished.netCount || net >= MOST) {
                return match.doPortsFit() && match.mapParts();
            }
            for (int to = 0; to < match.pair.drawn.netCount; to++) {
                if (match.isFree(to)) {
                    match.bind(net, to);
                    if (tryNetsFrom(match, net + 1)) {
                        return true;
                    }
                    match.unbind(net, to);
                }
            }
            return false;
        }

        private boolean doPortsFit() {
            for (int net = 0; net < pair.wished.netCount; net++) {
                int to = imageAt(net);
                if (to < 0 || pair.wished.letterAt(net) != pair.drawn.letterAt(to)) {
                    return false;
                }
            }
            return true;
        }

        /**
         * Maps each part to the lowest free one that fits, as far as nets are mapped; returns whether each has one.
         * Parts that fit one same part fit all the same parts, so that taking the lowest one never stops another.
         */
        private boolean mapParts() {
            int taken = 0;
            for (int part = 0; part < MOST; part++) {
                if (pair.wished.hasPart(part)) {
                    int to = lowestFitting(part, taken);
                    if (to < 0) {
                        return false;
                    }
                    partImage[part] = to;
                    taken |= 1 << to;
                }
            }
            return true;
        }

        private int lowestFitting(int part, int taken) {
            int firstSwappable = pair.wished.firstSwappable(part);
            for (int to = 0; to < MOST; to++) {
                if ((taken >> to & 1) == 0 && areOfOneKind(part, to)
                        && (doPinsFit(part, to, MOST_PINS) || doPinsFit(part, to, firstSwappable))) {
                    return to;
                }
            }
            return -1;
        }

        private boolean areOfOneKind(int part, int to) {
            return pair.drawn.valueAt(to) == pair.wished.valueAt(part)
                    && pair.drawn.kindAt(to) == pair.wished.kindAt(part);
        }

        /**
         * Compares both parts by drawn nets, the pins from one on swapped: a net to which none is mapped yet is as
         * good as another such one.
         */
        private boolean doPinsFit(int part, int to, int swappedFrom) {
            for (int pin = 0; pin < MOST_PINS; pin++) {
                int net = pair.drawn.netAt(to, swapped(pin, swappedFrom));
                int mapped = isFree(net) ? -1 : net;
                if (imageAt(pair.wished.netAt(part, pin)) != mapped) {
                    return false;
                }
            }
            return true;
        }

        /** The pin with which a pin is swapped, if those from one on are; otherwise the pin itself. */
        private static int swapped(int pin, int from) {
            return pin < from ? pin : 2 * from + 1 - pin;
        }

        int pinImage(int part, int pin) {
            boolean isSame = doPinsFit(part, partImageAt(part), MOST_PINS);
            return isSame ? pin : swapped(pin, pair.wished.firstSwappable(part));
        }
    }
}
