import java.util.ArrayList;
import java.util.Arrays;
import java.util.List;
import java.util.NoSuchElementException;
import java.util.TreeSet;

/**
 * Answers every call of the face in a second way, slowly and with the whole Java library: colours are texts,
 * nothing is kept from one call to the next but the two circuits, and matches are searched without colours.
 */
final class Oracle {
    private static final int FAR = 99;

    /** A part; its pins are the size of its nets. */
    private record Element(char kind, int value, List<Integer> nets) {
        /** The places of the pins that can be swapped: from the first of them on. */
        int swappableFrom() {
            return kind == 'd' ? nets.size() : nets.size() - 2;
        }

        Element with(int newValue) {
            return new Element(kind, newValue, nets);
        }

        Element swapped() {
            List<Integer> turned = new ArrayList<>(nets);
            int from = swappableFrom();
            turned.set(from, nets.get(from + 1));
            turned.set(from + 1, nets.get(from));
            return new Element(kind, value, turned);
        }

        /** The same text for two parts of which one can be laid on the other. */
        String shape() {
            List<Integer> loose = new ArrayList<>(nets.subList(swappableFrom(), nets.size()));
            loose.sort(null);
            return "" + kind + value + nets.subList(0, swappableFrom()) + loose;
        }

        Element mappedBy(int[] image) {
            return new Element(kind, value, nets.stream().map(net -> image[net]).toList());
        }
    }

    private record Difference(int distance, char kind, int member, int wishedSize, int drawnSize) {
    }

    private record Mapping(int[] nets, int[] parts) {
    }

    private final List<List<Character>> letters = List.of(new ArrayList<>(), new ArrayList<>());
    /** null where a part is removed. */
    private final List<List<Element>> elements = List.of(new ArrayList<>(), new ArrayList<>());

    private String[] netColour;
    private String[] partColour;
    private int rounds;

    Object answer(String call, int... a) {
        return switch (call) {
            case "addNet", "setPort", "addPart", "removePart", "setValue", "rewire", "swapPins", "copyWished",
                    "join", "joinAll" -> change(call, a);
            case "canJoin", "nets", "parts", "kindOf", "valueOf", "netOf", "pinsOn", "portOf", "distance",
                    "labelLength", "labelAt", "meanDistance", "valueSum" -> read(call, a);
            case "rounds", "netClasses", "partClasses", "netsLike", "partsLike", "areAlike" -> coloured(call, a);
            case "isMatched", "isMatchedByTrying", "matchedNet", "netByTrying", "matchedPart", "matchedPin" ->
                    matched(call, a);
            default -> different(call, a);
        };
    }

    // What changes a circuit.

    private Object change(String call, int[] a) {
        switch (call) {
            case "addNet" -> {
                circuit(a[0]);
                refuse(letters.get(a[0]).size() == 10, new IllegalStateException());
                letters.get(a[0]).add('-');
                return letters.get(a[0]).size() - 1;
            }
            case "setPort" -> {
                circuit(a[0]);
                refuse("abcdef-".indexOf(a[2]) < 0, new IllegalArgumentException());
                net(a[0], a[1]);
                int holder = letters.get(a[0]).indexOf((char) a[2]);
                refuse(a[2] != '-' && holder >= 0 && holder != a[1], new IllegalStateException());
                return letters.get(a[0]).set(a[1], (char) a[2]);
            }
            case "addPart" -> {
                return addPart(a);
            }
            case "removePart" -> {
                element(a[0], a[1]);
                elements.get(a[0]).set(a[1], null);
                return present(a[0]).size();
            }
            case "setValue" -> {
                circuit(a[0]);
                refuse(a[2] < 1 || a[2] > 999, new IllegalArgumentException());
                return elements.get(a[0]).set(a[1], element(a[0], a[1]).with(a[2])).value();
            }
            case "rewire" -> {
                List<Integer> nets = new ArrayList<>(element(a[0], a[1]).nets());
                refuse(a[2] < 0 || a[2] >= nets.size(), new IndexOutOfBoundsException());
                refuse(a[3] < 0 || a[3] >= letters.get(a[0]).size(), new UnsupportedOperationException());
                int before = nets.set(a[2], a[3]);
                Element old = element(a[0], a[1]);
                elements.get(a[0]).set(a[1], new Element(old.kind(), old.value(), nets));
                return before;
            }
            case "swapPins" -> {
                refuse(element(a[0], a[1]).kind() == 'd', new UnsupportedOperationException());
                Element turned = element(a[0], a[1]).swapped();
                elements.get(a[0]).set(a[1], turned);
                return turned.nets().get(turned.swappableFrom());
            }
            case "copyWished" -> {
                letters.get(1).clear();
                letters.get(1).addAll(letters.get(0));
                elements.get(1).clear();
                elements.get(1).addAll(elements.get(0));
                return present(1).size();
            }
            case "join" -> {
                element(a[0], a[1]);
                element(a[0], a[2]);
                refuse(way(a[0], a[1], a[2]) == '-', new UnsupportedOperationException());
                return join(a[0], Math.min(a[1], a[2]), Math.max(a[1], a[2]));
            }
            default -> {
                circuit(a[0]);
                return joinAll(a[0]);
            }
        }
    }

    private int addPart(int[] a) {
        circuit(a[0]);
        boolean isTransistor = a[1] == 't';
        refuse("rcdt".indexOf(a[1]) < 0 || a[2] < 1 || a[2] > 999 || !isTransistor && a[5] != -1,
                new IllegalArgumentException());
        List<Integer> nets = isTransistor ? List.of(a[3], a[4], a[5]) : List.of(a[3], a[4]);
        nets.forEach(net -> net(a[0], net));
        refuse(elements.get(a[0]).size() == 10, new IllegalStateException());
        elements.get(a[0]).add(new Element((char) a[1], a[2], nets));
        return elements.get(a[0]).size() - 1;
    }

    private int joinAll(int circuit) {
        int times = 0;
        boolean isGoing = true;
        while (isGoing) {
            int[] pair = firstPair(circuit);
            isGoing = pair.length > 0;
            if (isGoing) {
                join(circuit, pair[0], pair[1]);
                times++;
            }
        }
        return times;
    }

    private int[] firstPair(int circuit) {
        List<Integer> there = present(circuit);
        for (int one : there) {
            for (int other : there) {
                if (one < other && way(circuit, one, other) != '-') {
                    return new int[] {one, other};
                }
            }
        }
        return new int[0];
    }

    private char way(int circuit, int one, int other) {
        Element first = elements.get(circuit).get(one);
        Element second = elements.get(circuit).get(other);
        if (one == other || first.kind() != second.kind() || "rc".indexOf(first.kind()) < 0) {
            return '-';
        }
        TreeSet<Integer> ofFirst = new TreeSet<>(first.nets());
        TreeSet<Integer> ofSecond = new TreeSet<>(second.nets());
        if (ofFirst.size() < 2 || ofSecond.size() < 2) {
            return '-';
        }
        TreeSet<Integer> common = new TreeSet<>(ofFirst);
        common.retainAll(ofSecond);
        if (common.size() == 2) {
            return 'p';
        }
        boolean isInSeries = common.size() == 1 && letters.get(circuit).get(common.first()) == '-'
                && pins(circuit, common.first()) == 2;
        return isInSeries ? 's' : '-';
    }

    private int join(int circuit, int lower, int higher) {
        Element kept = elements.get(circuit).get(lower);
        Element gone = elements.get(circuit).get(higher);
        boolean isInSeries = way(circuit, lower, higher) == 's';
        boolean isSum = kept.kind() == 'r' ? isInSeries : !isInSeries;
        double product = (double) kept.value() * gone.value();
        int sum = kept.value() + gone.value();
        int value = isSum ? (sum > 999 ? 999 : sum) : (int) Math.max(1, Math.floor(product / sum));
        List<Integer> nets = kept.nets();
        if (isInSeries) {
            List<Integer> ownNet = new ArrayList<>(kept.nets());
            ownNet.removeAll(gone.nets());
            List<Integer> otherNet = new ArrayList<>(gone.nets());
            otherNet.removeAll(kept.nets());
            nets = List.of(ownNet.get(0), otherNet.get(0));
        }
        elements.get(circuit).set(lower, new Element(kept.kind(), value, nets));
        elements.get(circuit).set(higher, null);
        return value;
    }

    // What tells about one circuit.

    private Object read(String call, int[] a) {
        circuit(a[0]);
        switch (call) {
            case "nets":
                return letters.get(a[0]).size();
            case "parts":
                return present(a[0]).size();
            case "valueSum":
                return present(a[0]).stream().mapToLong(part -> elements.get(a[0]).get(part).value()).sum();
            case "meanDistance":
                int[] near = Arrays.stream(distances(a[0])).filter(steps -> steps < FAR).toArray();
                refuse(near.length == 0, new ArithmeticException());
                return Arrays.stream(near).average().getAsDouble();
            case "canJoin":
                element(a[0], a[1]);
                element(a[0], a[2]);
                return way(a[0], a[1], a[2]);
            case "kindOf":
                return element(a[0], a[1]).kind();
            case "valueOf":
                return element(a[0], a[1]).value();
            case "netOf":
                return netOf(element(a[0], a[1]), a[2]);
            case "labelLength":
                return label(element(a[0], a[1])).length();
            case "labelAt":
                String label = label(element(a[0], a[1]));
                refuse(a[2] < 0 || a[2] >= label.length(), new IndexOutOfBoundsException());
                return label.charAt(a[2]);
            default:
                net(a[0], a[1]);
                return call.equals("pinsOn") ? (Object) pins(a[0], a[1])
                        : call.equals("portOf") ? (Object) letters.get(a[0]).get(a[1])
                        : (Object) distances(a[0])[a[1]];
        }
    }

    private static Object netOf(Element element, int pin) {
        refuse(pin < 0 || pin >= element.nets().size(), new IndexOutOfBoundsException());
        return element.nets().get(pin);
    }

    private static String label(Element element) {
        StringBuilder label = new StringBuilder().append(element.kind()).append(element.value());
        element.nets().forEach(net -> label.append(':').append(net));
        return label.toString();
    }

    private int pins(int circuit, int net) {
        int count = 0;
        for (int part : present(circuit)) {
            count += (int) elements.get(circuit).get(part).nets().stream().filter(at -> at == net).count();
        }
        return count;
    }

    /** Steps between all pairs of nets, and then the least ones to ports. */
    private int[] distances(int circuit) {
        int size = letters.get(circuit).size();
        int[][] steps = new int[size][size];
        for (int net = 0; net < size; net++) {
            Arrays.fill(steps[net], FAR);
            steps[net][net] = 0;
        }
        for (int part : present(circuit)) {
            for (int one : elements.get(circuit).get(part).nets()) {
                for (int other : elements.get(circuit).get(part).nets()) {
                    steps[one][other] = Math.min(steps[one][other], 1);
                }
            }
        }
        for (int over = 0; over < size; over++) {
            for (int one = 0; one < size; one++) {
                for (int other = 0; other < size; other++) {
                    steps[one][other] = Math.min(steps[one][other], steps[one][over] + steps[over][other]);
                }
            }
        }
        int[] least = new int[size];
        for (int net = 0; net < size; net++) {
            least[net] = FAR;
            for (int port = 0; port < size; port++) {
                if (letters.get(circuit).get(port) != '-') {
                    least[net] = Math.min(least[net], steps[net][port]);
                }
            }
        }
        return least;
    }

    // Colours.

    private Object coloured(String call, int[] a) {
        colour();
        switch (call) {
            case "rounds":
                return rounds;
            case "netClasses":
                return classes(netColour).size();
            case "partClasses":
                return classes(partColour).size();
            case "netsLike":
                circuit(a[0]);
                circuit(a[2]);
                net(a[0], a[1]);
                return members(netColour, netColour[10 * a[0] + a[1]], a[2]).size();
            case "partsLike":
                circuit(a[0]);
                circuit(a[2]);
                element(a[0], a[1]);
                return members(partColour, partColour[10 * a[0] + a[1]], a[2]).size();
            default:
                net(0, a[0]);
                net(1, a[1]);
                return netColour[a[0]].equals(netColour[10 + a[1]]);
        }
    }

    private void colour() {
        netColour = new String[20];
        partColour = new String[20];
        for (int at = 0; at < 20; at++) {
            int circuit = at / 10;
            if (at % 10 < letters.get(circuit).size()) {
                netColour[at] = letters.get(circuit).get(at % 10) + "/" + pins(circuit, at % 10);
            }
            if (present(circuit).contains(at % 10)) {
                Element element = elements.get(circuit).get(at % 10);
                partColour[at] = element.kind() + "/" + element.value();
            }
        }
        rounds = -1;
        int before;
        do {
            before = classes(netColour).size() + classes(partColour).size();
            goRound();
            rounds++;
        } while (classes(netColour).size() + classes(partColour).size() > before);
    }

    private void goRound() {
        String[] newNet = new String[20];
        String[] newPart = new String[20];
        for (int at = 0; at < 20; at++) {
            newNet[at] = netColour[at] == null ? null : netColour[at] + pinColours(at / 10, at % 10);
            newPart[at] = partColour[at] == null ? null : partColour[at] + netColours(at / 10, at % 10);
        }
        netColour = renamed(newNet);
        partColour = renamed(newPart);
    }

    private List<String> pinColours(int circuit, int net) {
        List<String> all = new ArrayList<>();
        for (int part : present(circuit)) {
            Element element = elements.get(circuit).get(part);
            for (int pin = 0; pin < element.nets().size(); pin++) {
                if (element.nets().get(pin) == net) {
                    String which = pin >= element.swappableFrom() ? "any" : "pin" + pin;
                    all.add(partColour[10 * circuit + part] + which);
                }
            }
        }
        all.sort(null);
        return all;
    }

    private String netColours(int circuit, int part) {
        Element element = elements.get(circuit).get(part);
        List<String> all = new ArrayList<>();
        element.nets().forEach(net -> all.add(netColour[10 * circuit + net]));
        all.subList(element.swappableFrom(), all.size()).sort(null);
        return all.toString();
    }

    /** Short names, so that the texts do not grow from round to round. */
    private static String[] renamed(String[] colour) {
        List<String> names = new ArrayList<>(classes(colour));
        return Arrays.stream(colour).map(name -> name == null ? null : "<" + names.indexOf(name) + ">")
                .toArray(String[]::new);
    }

    private static TreeSet<String> classes(String[] colour) {
        TreeSet<String> all = new TreeSet<>(Arrays.asList(colour).stream().filter(name -> name != null).toList());
        return all;
    }

    private static List<Integer> members(String[] colour, String name, int circuit) {
        List<Integer> all = new ArrayList<>();
        for (int number = 0; number < 10; number++) {
            if (name.equals(colour[10 * circuit + number])) {
                all.add(number);
            }
        }
        return all;
    }

    // Differences.

    private Object different(String call, int[] a) {
        List<Difference> all = differences();
        int classes = classes(netColour).size() + classes(partColour).size();
        if (call.equals("differences")) {
            return all.size();
        }
        if (call.equals("equalShare")) {
            refuse(classes == 0, new ArithmeticException());
            return (float) (classes - all.size()) / (float) classes;
        }
        refuse(a[0] < 0 || a[0] >= all.size(), new IndexOutOfBoundsException());
        Difference difference = all.get(a[0]);
        switch (call) {
            case "differenceKind":
                return difference.kind();
            case "differenceMember":
                return difference.member();
            case "differenceDistance":
                return difference.distance();
            case "differenceSize":
                circuit(a[1]);
                return a[1] == 0 ? difference.wishedSize() : difference.drawnSize();
            default:
                throw new AssertionError(call);
        }
    }

    private List<Difference> differences() {
        colour();
        List<Difference> all = new ArrayList<>();
        addUnequal(all, 'n', netColour);
        addUnequal(all, 'p', partColour);
        all.sort((one, other) -> one.distance() != other.distance() ? one.distance() - other.distance()
                : one.kind() != other.kind() ? one.kind() - other.kind() : one.member() - other.member());
        return all;
    }

    private void addUnequal(List<Difference> all, char kind, String[] colour) {
        for (String name : classes(colour)) {
            List<Integer> wished = members(colour, name, 0);
            List<Integer> drawn = members(colour, name, 1);
            if (wished.size() != drawn.size()) {
                int distance = Math.min(nearest(kind, 0, wished), nearest(kind, 1, drawn));
                int member = wished.isEmpty() ? 100 + drawn.get(0) : wished.get(0);
                all.add(new Difference(distance, kind, member, wished.size(), drawn.size()));
            }
        }
    }

    private int nearest(char kind, int circuit, List<Integer> members) {
        int[] steps = distances(circuit);
        int least = FAR;
        for (int member : members) {
            List<Integer> nets = kind == 'n' ? List.of(member) : elements.get(circuit).get(member).nets();
            for (int net : nets) {
                least = Math.min(least, steps[net]);
            }
        }
        return least;
    }

    // Matches.

    private Object matched(String call, int[] a) {
        boolean isByTrying = call.endsWith("ByTrying");
        if (call.endsWith("Part") || call.endsWith("Pin")) {
            element(0, a[0]);
        } else if (!call.startsWith("isMatched")) {
            net(0, a[0]);
        }
        refuse(call.endsWith("Pin") && (a[1] < 0 || a[1] >= element(0, a[0]).nets().size()),
                new IndexOutOfBoundsException());
        refuse(isByTrying && Math.max(letters.get(0).size(), letters.get(1).size()) > 6,
                new UnsupportedOperationException());
        Mapping first = firstMapping();
        if (call.startsWith("isMatched")) {
            return first != null;
        }
        refuse(first == null, new IllegalStateException());
        switch (call) {
            case "matchedPart":
                return first.parts()[a[0]];
            case "matchedPin":
                Element mapped = element(0, a[0]).mappedBy(first.nets());
                boolean isStraight = mapped.nets().equals(element(1, first.parts()[a[0]]).nets());
                int from = mapped.swappableFrom();
                return isStraight || a[1] < from ? a[1] : from + (from + 1 - a[1]);
            default:
                return first.nets()[a[0]];
        }
    }

    private Mapping firstMapping() {
        int size = letters.get(0).size();
        if (size != letters.get(1).size() || present(0).size() != present(1).size()) {
            return null;
        }
        int[] nets = new int[size];
        Arrays.fill(nets, -1);
        int[] parts = new int[10];
        Arrays.fill(parts, -1);
        return mapNets(nets, 0) && mapParts(nets, parts, present(0)) ? new Mapping(nets, parts) : null;
    }

    private boolean mapNets(int[] nets, int net) {
        if (net == nets.length) {
            return true;
        }
        for (int to = 0; to < nets.length; to++) {
            int candidate = to;
            if (Arrays.stream(nets).noneMatch(taken -> taken == candidate)
                    && letters.get(0).get(net).equals(letters.get(1).get(to))) {
                nets[net] = to;
                if (settledShapes(0, nets).equals(settledShapes(1, nets)) && mapNets(nets, net + 1)) {
                    return true;
                }
                nets[net] = -1;
            }
        }
        return false;
    }

    /** The shapes, on drawn nets, of all parts with none but mapped nets: the same ones in both circuits. */
    private List<String> settledShapes(int circuit, int[] nets) {
        List<String> shapes = new ArrayList<>();
        for (int part : present(circuit)) {
            Element element = elements.get(circuit).get(part);
            Element onDrawn = circuit == 0 ? element.mappedBy(nets) : element;
            boolean isSettled = onDrawn.nets().stream().allMatch(
                    net -> net >= 0 && Arrays.stream(nets).anyMatch(taken -> taken == net));
            if (isSettled) {
                shapes.add(onDrawn.shape());
            }
        }
        shapes.sort(null);
        return shapes;
    }

    private boolean mapParts(int[] nets, int[] parts, List<Integer> left) {
        if (left.isEmpty()) {
            return true;
        }
        int part = left.get(0);
        for (int to : present(1)) {
            boolean isFree = Arrays.stream(parts).noneMatch(taken -> taken == to);
            if (isFree && element(0, part).mappedBy(nets).shape().equals(element(1, to).shape())) {
                parts[part] = to;
                if (mapParts(nets, parts, left.subList(1, left.size()))) {
                    return true;
                }
                parts[part] = -1;
            }
        }
        return false;
    }

    // What is there.

    private List<Integer> present(int circuit) {
        List<Integer> there = new ArrayList<>();
        for (int part = 0; part < elements.get(circuit).size(); part++) {
            if (elements.get(circuit).get(part) != null) {
                there.add(part);
            }
        }
        return there;
    }

    private static void circuit(int circuit) {
        refuse(circuit < 0 || circuit > 1, new IllegalArgumentException());
    }

    private void net(int circuit, int net) {
        refuse(net < 0 || net >= letters.get(circuit).size(), new NoSuchElementException());
    }

    private Element element(int circuit, int part) {
        circuit(circuit);
        refuse(!present(circuit).contains(part), new NoSuchElementException());
        return elements.get(circuit).get(part);
    }

    private static void refuse(boolean isWrong, RuntimeException why) {
        if (isWrong) {
            throw why;
        }
    }
}
