import java.util.NoSuchElementException;

/** A checker that compares a drawn circuit with the wished one. */
public final class Netcompare {
    /** The most nets, and the most parts, of a circuit. */
    private static final int MOST = 10;
    private static final int MOST_PINS = 3;
    private static final int MOST_VALUE = 999;
    private static final int MOST_TRIED_NETS = 6;
    private static final int FAR = 99;
    private static final char NONE = '-';

    private final Circuit wished;
    private final Circuit drawn;
    private final Colours colours;
    private final Differences unequal;
    private final Match match;
    private final Match triedMatch;
    private boolean isColoured;
    private boolean isSearched;
    private boolean isTried;

    public Netcompare() {
        wished = new Circuit();
        drawn = new Circuit();
        colours = new Colours(wished, drawn);
        unequal = new Differences();
        match = new Match(wished, drawn);
        triedMatch = new Match(wished, drawn);
    }

    public int addNet(int circuit) throws IllegalArgumentException, IllegalStateException {
        Circuit at = circuitAt(circuit);
        if (at.netCount >= MOST) {
            throw new IllegalStateException("the circuit has all its nets");
        }
        forget();
        return at.newNet();
    }

    public char setPort(int circuit, int net, char letter)
            throws IllegalArgumentException, NoSuchElementException, IllegalStateException {
        Circuit at = circuitAt(circuit);
        if (letter != NONE && (letter < 'a' || letter > 'f')) {
            throw new IllegalArgumentException("no such letter");
        }
        requireNet(at, net);
        if (letter != NONE && at.hasLetterBeside(net, letter)) {
            throw new IllegalStateException("another net has the letter");
        }
        forget();
        char before = at.letter[net];
        at.letter[net] = letter;
        return before;
    }

    public int addPart(int circuit, char kind, int value, int first, int second, int third)
            throws IllegalArgumentException, NoSuchElementException, IllegalStateException {
        Circuit at = circuitAt(circuit);
        requireKind(kind);
        requireValue(value);
        if (kind != 't' && third != -1) {
            throw new IllegalArgumentException("a third net without a third pin");
        }
        requireNet(at, first);
        requireNet(at, second);
        if (kind == 't') {
            requireNet(at, third);
        }
        if (at.addedParts >= MOST) {
            throw new IllegalStateException("all parts of the circuit have been added");
        }
        forget();
        int number = at.addedParts;
        at.addedParts++;
        Part part = at.part[number];
        part.become(kind, value);
        part.net[0] = first;
        part.net[1] = second;
        part.net[2] = third;
        return number;
    }

    public int removePart(int circuit, int part) throws IllegalArgumentException, NoSuchElementException {
        Circuit at = circuitAt(circuit);
        requirePart(at, part);
        forget();
        at.part[part].value = 0;
        return at.countParts();
    }

    public int setValue(int circuit, int part, int value) throws IllegalArgumentException, NoSuchElementException {
        Circuit at = circuitAt(circuit);
        requireValue(value);
        requirePart(at, part);
        forget();
        int before = at.part[part].value;
        at.part[part].value = value;
        return before;
    }

    public int rewire(int circuit, int part, int pin, int net)
            throws IllegalArgumentException, NoSuchElementException, IndexOutOfBoundsException,
            UnsupportedOperationException {
        Circuit at = circuitAt(circuit);
        requirePart(at, part);
        requirePin(at, part, pin);
        if (!at.hasNet(net)) {
            throw new UnsupportedOperationException("no such net");
        }
        forget();
        int before = at.part[part].net[pin];
        at.part[part].net[pin] = net;
        return before;
    }

    public int swapPins(int circuit, int part)
            throws IllegalArgumentException, NoSuchElementException, UnsupportedOperationException {
        Circuit at = circuitAt(circuit);
        requirePart(at, part);
        if (!at.part[part].hasSwappable()) {
            throw new UnsupportedOperationException("the pins of a diode stay");
        }
        forget();
        return at.part[part].swap();
    }

    public int copyWished() {
        forget();
        drawn.copyFrom(wished);
        return drawn.countParts();
    }

    public char canJoin(int circuit, int one, int other) throws IllegalArgumentException, NoSuchElementException {
        Circuit at = circuitAt(circuit);
        requirePart(at, one);
        requirePart(at, other);
        return at.wayToJoin(one, other);
    }

    public int join(int circuit, int one, int other)
            throws IllegalArgumentException, NoSuchElementException, UnsupportedOperationException {
        Circuit at = circuitAt(circuit);
        requirePart(at, one);
        requirePart(at, other);
        if (at.wayToJoin(one, other) == NONE) {
            throw new UnsupportedOperationException("neither in series nor in parallel");
        }
        forget();
        return at.joinPair(Math.min(one, other), Math.max(one, other));
    }

    public int joinAll(int circuit) throws IllegalArgumentException {
        Circuit at = circuitAt(circuit);
        forget();
        return at.joinWhilePossible();
    }

    public int nets(int circuit) throws IllegalArgumentException {
        return circuitAt(circuit).netCount;
    }

    public int parts(int circuit) throws IllegalArgumentException {
        return circuitAt(circuit).countParts();
    }

    public char kindOf(int circuit, int part) throws IllegalArgumentException, NoSuchElementException {
        Circuit at = circuitAt(circuit);
        requirePart(at, part);
        return at.part[part].kind;
    }

    public int valueOf(int circuit, int part) throws IllegalArgumentException, NoSuchElementException {
        Circuit at = circuitAt(circuit);
        requirePart(at, part);
        return at.part[part].value;
    }

    public int netOf(int circuit, int part, int pin)
            throws IllegalArgumentException, NoSuchElementException, IndexOutOfBoundsException {
        Circuit at = circuitAt(circuit);
        requirePart(at, part);
        requirePin(at, part, pin);
        return at.part[part].net[pin];
    }

    public int pinsOn(int circuit, int net) throws IllegalArgumentException, NoSuchElementException {
        Circuit at = circuitAt(circuit);
        requireNet(at, net);
        return at.countPins(net);
    }

    public char portOf(int circuit, int net) throws IllegalArgumentException, NoSuchElementException {
        Circuit at = circuitAt(circuit);
        requireNet(at, net);
        return at.letter[net];
    }

    public int distance(int circuit, int net) throws IllegalArgumentException, NoSuchElementException {
        Circuit at = circuitAt(circuit);
        requireNet(at, net);
        at.measure();
        return at.steps[net];
    }

    public int labelLength(int circuit, int part) throws IllegalArgumentException, NoSuchElementException {
        Circuit at = circuitAt(circuit);
        requirePart(at, part);
        return at.part[part].writeLabel();
    }

    public char labelAt(int circuit, int part, int index)
            throws IllegalArgumentException, NoSuchElementException, IndexOutOfBoundsException {
        Circuit at = circuitAt(circuit);
        requirePart(at, part);
        if (index < 0 || index >= at.part[part].writeLabel()) {
            throw new IndexOutOfBoundsException("no such index");
        }
        return at.part[part].label[index];
    }

    public int rounds() {
        colour();
        return colours.roundCount;
    }

    public int netClasses() {
        colour();
        return colours.ofNets.classCount;
    }

    public int partClasses() {
        colour();
        return colours.ofParts.classCount;
    }

    public int netsLike(int circuit, int net, int of) throws IllegalArgumentException, NoSuchElementException {
        Circuit at = circuitAt(circuit);
        requireCircuit(of);
        requireNet(at, net);
        colour();
        return colours.ofNets.sizeOf(colours.ofNets.colour[slot(circuit, net)], of);
    }

    public int partsLike(int circuit, int part, int of) throws IllegalArgumentException, NoSuchElementException {
        Circuit at = circuitAt(circuit);
        requireCircuit(of);
        requirePart(at, part);
        colour();
        return colours.ofParts.sizeOf(colours.ofParts.colour[slot(circuit, part)], of);
    }

    public boolean areAlike(int wished, int drawn) throws NoSuchElementException {
        requireNet(this.wished, wished);
        requireNet(this.drawn, drawn);
        colour();
        return colours.ofNets.isSameColour(wished, drawn);
    }

    public boolean isMatched() {
        search();
        return match.isFound;
    }

    public boolean isMatchedByTrying() throws UnsupportedOperationException {
        requireFewNets();
        searchByTrying();
        return triedMatch.isFound;
    }

    public int matchedNet(int net) throws NoSuchElementException, IllegalStateException {
        requireNet(wished, net);
        search();
        requireFound(match);
        return match.image[net];
    }

    public int netByTrying(int net)
            throws NoSuchElementException, UnsupportedOperationException, IllegalStateException {
        requireNet(wished, net);
        requireFewNets();
        searchByTrying();
        requireFound(triedMatch);
        return triedMatch.image[net];
    }

    public int matchedPart(int part) throws NoSuchElementException, IllegalStateException {
        requirePart(wished, part);
        search();
        requireFound(match);
        return match.partImage[part];
    }

    public int matchedPin(int part, int pin)
            throws NoSuchElementException, IndexOutOfBoundsException, IllegalStateException {
        requirePart(wished, part);
        requirePin(wished, part, pin);
        search();
        requireFound(match);
        return match.pinImage(part, pin);
    }

    public int differences() {
        colour();
        return unequal.count;
    }

    public char differenceKind(int index) throws IndexOutOfBoundsException {
        requireDifference(index);
        return unequal.isOfParts(index) ? 'p' : 'n';
    }

    public int differenceMember(int index) throws IndexOutOfBoundsException {
        requireDifference(index);
        return unequal.memberOf(index);
    }

    public int differenceDistance(int index) throws IndexOutOfBoundsException {
        requireDifference(index);
        return unequal.distanceOf(index);
    }

    public int differenceSize(int index, int circuit) throws IndexOutOfBoundsException, IllegalArgumentException {
        requireDifference(index);
        requireCircuit(circuit);
        return unequal.sizeOf(index, circuit, colours);
    }

    public float equalShare() throws ArithmeticException {
        colour();
        int all = colours.countClasses();
        if (all == 0) {
            throw new ArithmeticException("no classes");
        }
        return (float) (all - unequal.count) / (float) all;
    }

    public double meanDistance(int circuit) throws IllegalArgumentException, ArithmeticException {
        Circuit at = circuitAt(circuit);
        at.measure();
        int sum = 0;
        int reaching = 0;
        for (int net = 0; net < at.netCount; net++) {
            if (at.steps[net] != FAR) {
                sum += at.steps[net];
                reaching++;
            }
        }
        if (reaching == 0) {
            throw new ArithmeticException("no net reaches a port");
        }
        return (double) sum / (double) reaching;
    }

    public long valueSum(int circuit) throws IllegalArgumentException {
        Circuit at = circuitAt(circuit);
        long sum = 0;
        for (int part = 0; part < at.addedParts; part++) {
            sum += at.part[part].value;
        }
        return sum;
    }

    private Circuit circuitAt(int circuit) {
        requireCircuit(circuit);
        return circuit == 0 ? wished : drawn;
    }

    private static void requireCircuit(int circuit) {
        if (circuit != 0 && circuit != 1) {
            throw new IllegalArgumentException("no such circuit");
        }
    }

    private static void requireKind(char kind) {
        if (kind != 'r' && kind != 'c' && kind != 'd' && kind != 't') {
            throw new IllegalArgumentException("no such kind");
        }
    }

    private static void requireValue(int value) {
        if (value < 1 || value > MOST_VALUE) {
            throw new IllegalArgumentException("no such value");
        }
    }

    private static void requireNet(Circuit at, int net) {
        if (!at.hasNet(net)) {
            throw new NoSuchElementException("no such net");
        }
    }

    private static void requirePart(Circuit at, int part) {
        if (!at.hasPart(part)) {
            throw new NoSuchElementException("no such part");
        }
    }

    private static void requirePin(Circuit at, int part, int pin) {
        if (pin < 0 || pin >= at.part[part].pinCount) {
            throw new IndexOutOfBoundsException("no such pin");
        }
    }

    private void requireFewNets() {
        if (wished.netCount > MOST_TRIED_NETS || drawn.netCount > MOST_TRIED_NETS) {
            throw new UnsupportedOperationException("too many nets to try all ways");
        }
    }

    private static void requireFound(Match match) {
        if (!match.isFound) {
            throw new IllegalStateException("no match");
        }
    }

    private void requireDifference(int index) {
        colour();
        if (index < 0 || index >= unequal.count) {
            throw new IndexOutOfBoundsException("no such difference");
        }
    }

    /** Every change ends what has been found out; it is found out anew when it is asked for. */
    private void forget() {
        isColoured = false;
        isSearched = false;
        isTried = false;
    }

    private void colour() {
        if (!isColoured) {
            wished.measure();
            drawn.measure();
            colours.refine();
            unequal.collect(colours);
            isColoured = true;
        }
    }

    private void search() {
        if (!isSearched) {
            colour();
            match.find(colours.ofNets, unequal.count == 0);
            isSearched = true;
        }
    }

    private void searchByTrying() {
        if (!isTried) {
            triedMatch.findByTrying();
            isTried = true;
        }
    }

    /** Where a net or a part of a circuit stands in rows over both circuits. */
    private static int slot(int circuit, int number) {
        return circuit * MOST + number;
    }

    /** A place for a part: none has been added yet, or one is there, or it is removed. */
    static final class Part {
        private char kind;
        /** 0 where no part is: no part has that value. */
        private int value;
        private int pinCount;
        /** Can be swapped with the next pin; behind the last pin if none can. */
        private int firstSwappable;
        private final int[] net = new int[MOST_PINS];
        /** Holds the longest label, as "t999:0:1:2". */
        private final char[] label = new char[10];

        void become(char newKind, int newValue) {
            kind = newKind;
            value = newValue;
            pinCount = newKind == 't' ? 3 : 2;
            firstSwappable = newKind == 'd' ? 2 : pinCount - 2;
        }

        void copyFrom(Part other) {
            kind = other.kind;
            value = other.value;
            pinCount = other.pinCount;
            firstSwappable = other.firstSwappable;
            System.arraycopy(other.net, 0, net, 0, MOST_PINS);
        }

        boolean isThere() {
            return value > 0;
        }

        boolean hasSwappable() {
            return firstSwappable < pinCount;
        }

        /** Swaps the pins that can be swapped, and returns the net on which the lower one is then. */
        int swap() {
            int lower = firstSwappable;
            int higher = lower + 1;
            if (higher >= MOST_PINS) {
                return -1;
            }
            int before = net[lower];
            net[lower] = net[higher];
            net[higher] = before;
            return net[lower];
        }

        /** The pin with which a pin can be swapped, or the pin itself. */
        int partner(int pin) {
            return pin < firstSwappable ? pin : 2 * firstSwappable + 1 - pin;
        }

        int countPinsOn(int wanted) {
            int count = 0;
            for (int pin = 0; pin < pinCount; pin++) {
                if (net[pin] == wanted) {
                    count++;
                }
            }
            return count;
        }

        /** The net of a part with two pins that is not the one given. */
        int netBeside(int given) {
            return net[0] == given ? net[1] : net[0];
        }

        boolean isJoinable() {
            return kind == 'r' || kind == 'c';
        }

        boolean isParallelTo(Part other) {
            boolean isSame = net[0] == other.net[0] && net[1] == other.net[1];
            boolean isCrossed = net[0] == other.net[1] && net[1] == other.net[0];
            return net[0] != net[1] && (isSame || isCrossed);
        }

        /** Writes the label, and returns its length. */
        int writeLabel() {
            int length = 0;
            label[length++] = kind;
            if (value >= 100) {
                label[length++] = digit(value / 100);
            }
            if (value >= 10) {
                label[length++] = digit(value / 10 % 10);
            }
            label[length++] = digit(value % 10);
            for (int pin = 0; pin < pinCount; pin++) {
                label[length++] = ':';
                label[length++] = digit(net[pin]);
            }
            return length;
        }

        private static char digit(int number) {
            return (char) ('0' + number);
        }
    }

    /** The nets and parts of one circuit. */
    static final class Circuit {
        private int netCount;
        private int addedParts;
        private final char[] letter = new char[MOST];
        private final Part[] part = new Part[MOST];
        /** The distance of each net to a port, as measured last. */
        private final int[] steps = new int[MOST];

        Circuit() {
            for (int number = 0; number < MOST; number++) {
                part[number] = new Part();
            }
        }

        boolean hasNet(int net) {
            return net >= 0 && net < netCount;
        }

        boolean hasPart(int number) {
            return number >= 0 && number < addedParts && part[number].isThere();
        }

        boolean hasLetterBeside(int net, char wanted) {
            for (int other = 0; other < netCount; other++) {
                if (other != net && letter[other] == wanted) {
                    return true;
                }
            }
            return false;
        }

        int newNet() {
            int net = netCount;
            letter[net] = NONE;
            netCount++;
            return net;
        }

        void copyFrom(Circuit other) {
            netCount = other.netCount;
            addedParts = other.addedParts;
            System.arraycopy(other.letter, 0, letter, 0, MOST);
            for (int number = 0; number < MOST; number++) {
                part[number].copyFrom(other.part[number]);
            }
        }

        int countParts() {
            int count = 0;
            for (int number = 0; number < addedParts; number++) {
                if (part[number].isThere()) {
                    count++;
                }
            }
            return count;
        }

        int countPins(int net) {
            int count = 0;
            for (int number = 0; number < addedParts; number++) {
                if (part[number].isThere()) {
                    count += part[number].countPinsOn(net);
                }
            }
            return count;
        }

        /** Measures the distances of all nets: in each pass those that are one step farther. */
        void measure() {
            for (int net = 0; net < netCount; net++) {
                steps[net] = letter[net] == NONE ? FAR : 0;
            }
            for (int far = 1; far < MOST; far++) {
                for (int number = 0; number < addedParts; number++) {
                    if (part[number].isThere() && nearest(part[number]) == far - 1) {
                        stepOver(part[number], far);
                    }
                }
            }
        }

        private void stepOver(Part over, int far) {
            for (int pin = 0; pin < over.pinCount; pin++) {
                int net = over.net[pin];
                steps[net] = Math.min(steps[net], far);
            }
        }

        /** The least distance of the nets of a part. */
        int nearest(Part of) {
            int least = FAR;
            for (int pin = 0; pin < of.pinCount; pin++) {
                least = Math.min(least, steps[of.net[pin]]);
            }
            return least;
        }

        /** 's' for series, 'p' for parallel, '-' for neither. */
        char wayToJoin(int one, int other) {
            Part first = part[one];
            Part second = part[other];
            if (one == other || first.kind != second.kind || !first.isJoinable()) {
                return NONE;
            }
            if (first.isParallelTo(second)) {
                return 'p';
            }
            return pinInSeries(first, second) >= 0 ? 's' : NONE;
        }

        /** The pin of one part on the net by which it is in series with another one, or -1. */
        private int pinInSeries(Part one, Part other) {
            for (int pin = 0; pin < 2; pin++) {
                int common = one.net[pin];
                if (letter[common] == NONE && countPins(common) == 2
                        && one.countPinsOn(common) == 1 && other.countPinsOn(common) == 1
                        && one.net[1 - pin] != other.netBeside(common)) {
                    return pin;
                }
            }
            return -1;
        }

        /** Joins two parts that can be joined into the one with the lower number; returns the joined value. */
        int joinPair(int lower, int higher) {
            Part kept = part[lower];
            Part gone = part[higher];
            int pin = pinInSeries(kept, gone);
            boolean isSeries = pin >= 0;
            if (isSeries) {
                int common = kept.net[pin];
                kept.net[0] = kept.net[1 - pin];
                kept.net[1] = gone.netBeside(common);
            }
            boolean isSum = isSeries == (kept.kind == 'r');
            kept.value = joinedValue(kept.value, gone.value, isSum);
            gone.value = 0;
            return kept.value;
        }

        private static int joinedValue(int one, int other, boolean isSum) {
            int sum = one + other;
            if (isSum || sum <= 0) {
                return Math.min(MOST_VALUE, sum);
            }
            return Math.max(1, one * other / sum);
        }

        /** Each joining removes a part, so that there are fewer of them than parts. */
        int joinWhilePossible() {
            int times = 0;
            while (times < MOST && joinFirstPair()) {
                times++;
            }
            return times;
        }

        private boolean joinFirstPair() {
            for (int one = 0; one < addedParts; one++) {
                for (int other = one + 1; other < addedParts; other++) {
                    if (hasPart(one) && hasPart(other) && wayToJoin(one, other) != NONE) {
                        joinPair(one, other);
                        return true;
                    }
                }
            }
            return false;
        }
    }

    /** The nets, or the parts, of both circuits, told apart by rows of numbers: equal rows are of one colour. */
    static final class Members {
        private static final int SLOTS = 2 * MOST;
        /** A colour and all pins of a circuit: all of them can be on one net. */
        private static final int LONGEST_ROW = 1 + MOST * MOST_PINS;

        private final int[][] row = new int[SLOTS][LONGEST_ROW];
        /** 0 where there is no member. */
        private final int[] rowLength = new int[SLOTS];
        /** From 0, without gaps; -1 where there is no member. */
        private final int[] colour = new int[SLOTS];
        private final int[] distance = new int[SLOTS];
        private int classCount;

        void startRows() {
            for (int at = 0; at < SLOTS; at++) {
                rowLength[at] = 0;
            }
        }

        /** Puts a number so that the row rises from an index on: for numbers whose order tells nothing. */
        void put(int at, int number, int risingFrom) {
            int index = rowLength[at];
            if (index >= LONGEST_ROW) {
                return;
            }
            while (index > risingFrom && row[at][index - 1] > number) {
                row[at][index] = row[at][index - 1];
                index--;
            }
            row[at][index] = number;
            rowLength[at]++;
        }

        void colourByRows() {
            classCount = 0;
            for (int at = 0; at < SLOTS; at++) {
                if (rowLength[at] == 0) {
                    colour[at] = -1;
                } else {
                    int same = firstWithRowOf(at);
                    colour[at] = same < at ? colour[same] : classCount++;
                }
            }
        }

        private int firstWithRowOf(int at) {
            int other = 0;
            while (other < at && !haveSameRow(other, at)) {
                other++;
            }
            return other;
        }

        private boolean haveSameRow(int one, int other) {
            if (rowLength[one] != rowLength[other]) {
                return false;
            }
            for (int index = 0; index < rowLength[one]; index++) {
                if (row[one][index] != row[other][index]) {
                    return false;
                }
            }
            return true;
        }

        boolean isSameColour(int ofWished, int ofDrawn) {
            return colour[slot(0, ofWished)] == colour[slot(1, ofDrawn)];
        }

        int sizeOf(int itsColour, int circuit) {
            int size = 0;
            for (int number = 0; number < MOST; number++) {
                if (colour[slot(circuit, number)] == itsColour) {
                    size++;
                }
            }
            return size;
        }

        /** The first place of a class: wished members stand ahead of drawn ones. */
        int firstOf(int itsColour) {
            int at = 0;
            while (at < SLOTS - 1 && colour[at] != itsColour) {
                at++;
            }
            return at;
        }

        int distanceOf(int itsColour) {
            int least = FAR;
            for (int at = 0; at < SLOTS; at++) {
                if (colour[at] == itsColour) {
                    least = Math.min(least, distance[at]);
                }
            }
            return least;
        }
    }

    /** The colours of the nets and parts of both circuits, whose distances have been measured. */
    static final class Colours {
        private static final int MOST_COLOURS = 4 * MOST;
        /** Stands for a pin that can be swapped, whichever one it is. */
        private static final int SWAPPABLE = MOST_PINS;

        private final Circuit wished;
        private final Circuit drawn;
        private final Members ofNets = new Members();
        private final Members ofParts = new Members();
        private int roundCount;

        Colours(Circuit wished, Circuit drawn) {
            this.wished = wished;
            this.drawn = drawn;
        }

        int countClasses() {
            return ofNets.classCount + ofParts.classCount;
        }

        /** Each counted round makes at least one colour more, so that there are fewer of them than colours. */
        void refine() {
            startColours();
            roundCount = 0;
            while (roundCount < MOST_COLOURS && goRound()) {
                roundCount++;
            }
        }

        private void startColours() {
            ofNets.startRows();
            ofParts.startRows();
            writeFirstRows(wished, 0);
            writeFirstRows(drawn, 1);
            ofNets.colourByRows();
            ofParts.colourByRows();
        }

        private void writeFirstRows(Circuit circuit, int number) {
            for (int net = 0; net < circuit.netCount; net++) {
                int at = slot(number, net);
                ofNets.put(at, circuit.letter[net], 0);
                ofNets.put(at, circuit.countPins(net), 1);
                ofNets.distance[at] = circuit.steps[net];
            }
            for (int index = 0; index < circuit.addedParts; index++) {
                Part part = circuit.part[index];
                if (part.isThere()) {
                    int at = slot(number, index);
                    ofParts.put(at, part.kind, 0);
                    ofParts.put(at, part.value, 1);
                    ofParts.distance[at] = circuit.nearest(part);
                }
            }
        }

        /** Returns whether the round tells more colours apart; all rows stand before a colour changes. */
        private boolean goRound() {
            int before = countClasses();
            ofNets.startRows();
            ofParts.startRows();
            writeRows(wished, 0);
            writeRows(drawn, 1);
            ofNets.colourByRows();
            ofParts.colourByRows();
            return countClasses() > before;
        }

        private void writeRows(Circuit circuit, int number) {
            for (int net = 0; net < circuit.netCount; net++) {
                int at = slot(number, net);
                ofNets.put(at, ofNets.colour[at], 0);
            }
            for (int index = 0; index < circuit.addedParts; index++) {
                Part part = circuit.part[index];
                if (part.isThere()) {
                    writePart(part, number, slot(number, index));
                }
            }
        }

        private void writePart(Part part, int number, int at) {
            int colour = ofParts.colour[at];
            ofParts.put(at, colour, 0);
            for (int pin = 0; pin < part.pinCount; pin++) {
                int atNet = slot(number, part.net[pin]);
                boolean canSwap = pin >= part.firstSwappable;
                ofNets.put(atNet, colour * (SWAPPABLE + 1) + (canSwap ? SWAPPABLE : pin), 1);
                ofParts.put(at, ofNets.colour[atNet], 1 + (canSwap ? part.firstSwappable : pin));
            }
        }
    }

    /** The unequal classes in their order. */
    static final class Differences {
        private static final int MOST_DIFFERENCES = 4 * MOST;
        /** What is added to the number of a member in the drawn circuit. */
        private static final int DRAWN = 100;
        /** What a key of a class of parts has more than one of nets: above all members. */
        private static final int OF_PARTS = 200;
        private static final int ONE_STEP = 2 * OF_PARTS;

        /** Distance, nets or parts, and member as one number, so that the order is that of the numbers. */
        private final int[] key = new int[MOST_DIFFERENCES];
        private int count;

        void collect(Colours colours) {
            count = 0;
            collectFrom(colours.ofNets, 0);
            collectFrom(colours.ofParts, OF_PARTS);
        }

        private void collectFrom(Members members, int kind) {
            for (int colour = 0; colour < members.classCount; colour++) {
                if (members.sizeOf(colour, 0) != members.sizeOf(colour, 1)) {
                    int first = members.firstOf(colour);
                    int member = first < MOST ? first : DRAWN + first - MOST;
                    insert(members.distanceOf(colour) * ONE_STEP + kind + member);
                }
            }
        }

        private void insert(int newKey) {
            if (count >= MOST_DIFFERENCES) {
                return;
            }
            int index = count;
            while (index > 0 && key[index - 1] > newKey) {
                key[index] = key[index - 1];
                index--;
            }
            key[index] = newKey;
            count++;
        }

        boolean isOfParts(int index) {
            return key[index] % ONE_STEP >= OF_PARTS;
        }

        int memberOf(int index) {
            return key[index] % OF_PARTS;
        }

        int distanceOf(int index) {
            return key[index] / ONE_STEP;
        }

        int sizeOf(int index, int circuit, Colours colours) {
            Members members = isOfParts(index) ? colours.ofParts : colours.ofNets;
            int member = memberOf(index);
            int at = member < DRAWN ? slot(0, member) : slot(1, member - DRAWN);
            return members.sizeOf(members.colour[at], circuit);
        }
    }

    /** A way to map the nets and parts of the wished circuit to those of the drawn one. */
    static final class Match {
        private final Circuit wished;
        private final Circuit drawn;
        /** The drawn net of each wished one, or -1 as long as it is mapped to none. */
        private final int[] image = new int[MOST];
        /** The other way round: the wished net of each drawn one, or -1. */
        private final int[] origin = new int[MOST];
        private final int[] partImage = new int[MOST];
        private boolean isFound;

        Match(Circuit wished, Circuit drawn) {
            this.wished = wished;
            this.drawn = drawn;
        }

        /** Finds the first match; a net can only be mapped to one of its class, and no class can be unequal. */
        void find(Members nets, boolean areClassesEqual) {
            unbindAll();
            isFound = areClassesEqual && mapNetsFrom(this, nets, 0);
        }

        /** Finds the first match without the classes. */
        void findByTrying() {
            unbindAll();
            isFound = wished.netCount == drawn.netCount && wished.countParts() == drawn.countParts()
                    && tryNetsFrom(this, 0);
        }

        private void unbindAll() {
            for (int net = 0; net < MOST; net++) {
                image[net] = -1;
                origin[net] = -1;
            }
        }

        private void bind(int net, int to) {
            image[net] = to;
            origin[to] = net;
        }

        private void unbind(int net, int to) {
            image[net] = -1;
            origin[to] = -1;
        }

        /** Maps a net and those behind it; the net is the depth too, and ends it. */
        private static boolean mapNetsFrom(Match match, Members nets, int net) {
            if (net >= match.wished.netCount || net >= MOST) {
                return match.mapParts();
            }
            for (int to = 0; to < match.drawn.netCount; to++) {
                if (match.origin[to] < 0 && nets.isSameColour(net, to)) {
                    match.bind(net, to);
                    if (match.mapParts() && mapNetsFrom(match, nets, net + 1)) {
                        return true;
                    }
                    match.unbind(net, to);
                }
            }
            return false;
        }

        /** Maps a net and those behind it in all ways; the net is the depth too, and ends it. */
        private static boolean tryNetsFrom(Match match, int net) {
            if (net >= match.wished.netCount || net >= MOST) {
                return match.doPortsFit() && match.mapParts();
            }
            for (int to = 0; to < match.drawn.netCount; to++) {
                if (match.origin[to] < 0) {
                    match.bind(net, to);
                    if (tryNetsFrom(match, net + 1)) {
                        return true;
                    }
                    match.unbind(net, to);
                }
            }
            return false;
        }

        private boolean doPortsFit() {
            for (int net = 0; net < wished.netCount; net++) {
                int to = image[net];
                if (to < 0 || wished.letter[net] != drawn.letter[to]) {
                    return false;
                }
            }
            return true;
        }

        /**
         * Maps each part to the lowest free one that fits, as far as nets are mapped; returns whether each has one.
         * Parts that fit one same part fit all the same parts, so that taking the lowest one never stops another.
         */
        private boolean mapParts() {
            int taken = 0;
            for (int part = 0; part < wished.addedParts; part++) {
                if (wished.part[part].isThere()) {
                    int to = lowestFitting(wished.part[part], taken);
                    if (to < 0) {
                        return false;
                    }
                    partImage[part] = to;
                    taken |= 1 << to;
                }
            }
            return true;
        }

        private int lowestFitting(Part part, int taken) {
            for (int to = 0; to < drawn.addedParts; to++) {
                Part other = drawn.part[to];
                if ((taken >> to & 1) == 0 && other.value == part.value && other.kind == part.kind
                        && (doPinsFit(part, other, false) || doPinsFit(part, other, true))) {
                    return to;
                }
            }
            return -1;
        }

        /** Compares both parts by drawn nets: one to which no net is mapped yet is as good as another such one. */
        private boolean doPinsFit(Part part, Part other, boolean isSwapped) {
            for (int pin = 0; pin < part.pinCount; pin++) {
                int net = other.net[isSwapped ? part.partner(pin) : pin];
                int mapped = origin[net] < 0 ? -1 : net;
                if (image[part.net[pin]] != mapped) {
                    return false;
                }
            }
            return true;
        }

        int pinImage(int number, int pin) {
            Part part = wished.part[number];
            return doPinsFit(part, drawn.part[partImage[number]], false) ? pin : part.partner(pin);
        }
    }
}
