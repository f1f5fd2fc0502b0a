/** The sentences under "Differences". */
final class DifferenceEdges {
    private static final String HERE = "Differences";

    private final Edges edges;

    DifferenceEdges(Edges edges) {
        this.edges = edges;
    }

    void run() {
        distancesOfClasses();
        steps();
        noPortReached();
        unequalClasses();
        risingDistance();
        netsAheadOfParts();
        lowestWishedMember();
        lowestDrawnMember();
    }

    /** All differences, each as kind, member, distance and sizes, as "n0@99:2/1". */
    static String all(Netcompare x) {
        StringBuilder text = new StringBuilder();
        for (int index = 0; index < x.differences(); index++) {
            text.append(index == 0 ? "" : " ").append(x.differenceKind(index)).append(x.differenceMember(index))
                    .append('@').append(x.differenceDistance(index)).append(':')
                    .append(x.differenceSize(index, 0)).append('/').append(x.differenceSize(index, 1));
        }
        return text.toString();
    }

    private void due(String call, String want, Netcompare x) {
        edges.due(call, want, () -> all(x));
    }

    private void distancesOfClasses() {
        edges.sentence(HERE, "The distance of a class is the least number of steps from a net of it, or from a net of "
                + "one of its parts, to a port");
        due("a chain", "n0@0:1/0 p0@0:1/0 n1@1:1/0 p1@1:1/0 n2@2:1/0 n100@99:0/3",
                Draw.both(3, "r1:0:1 r1:1:2 a=0", ""));
        due("the nearer net by pin 1", "n2@0:1/0 p1@0:1/0 n1@1:1/0 p0@1:1/0 n0@2:1/0",
                Draw.one(3, "r1:0:1 r1:1:2 a=2"));
        due("the nearest net by pin 0", "n0@0:1/0 p0@0:1/0 n1@1:2/0", Draw.one(3, "t1:0:1:2 a=0"));
        due("the nearest net by pin 2", "n2@0:1/0 p0@0:1/0 n0@1:1/0 n1@1:1/0", Draw.one(3, "t1:0:1:2 a=2"));
        due("the nearer one of two ports", "n0@0:1/0 n4@0:1/0 p0@0:1/0 p3@0:1/0 n1@1:1/0 n3@1:1/0 p1@1:1/0 p2@1:1/0 "
                + "n2@2:1/0", Draw.one(5, "r1:0:1 r1:1:2 r1:2:3 r1:3:4 a=0 b=4"));
    }

    private void steps() {
        edges.sentence(HERE, "a step leads from a net to another one with a pin of the same part");
        String[] ports = {"a=0", "a=1", "a=2"};
        for (int port = 0; port < 3; port++) {
            Netcompare x = Draw.one(3, "t1:0:1:2 " + ports[port]);
            for (int net = 0; net < 3; net++) {
                int from = net;
                edges.due("over a transistor from " + net + ", " + ports[port], net == port ? 0 : 1,
                        () -> x.distance(0, from));
            }
        }
        Netcompare diodes = Draw.one(4, "d1:0:1 d1:2:1 d1:2:3 a=0");
        edges.due("over diodes, whichever way they are turned", 3, () -> diodes.distance(0, 3));
        diodes.removePart(0, 1);
        edges.due("not over a removed part", 99, () -> diodes.distance(0, 3));
        edges.due("no step on a part of a single net", 99, () -> Draw.one(2, "r1:0:0 r1:1:1 a=0").distance(0, 1));
        edges.due("no step to the other circuit", 99, () -> Draw.both(1, "r1:0:0 a=0", "r1:0:0").distance(1, 0));
        String chain = "r1:8:9 r1:7:8 r1:6:7 r1:5:6 r1:4:5 r1:3:4 r1:2:3 r1:1:2 r1:0:1 ";
        edges.due("nine steps", 9, () -> Draw.one(10, chain + "a=0").distance(0, 9));
        edges.due("nine steps the other way round", 9, () -> Draw.one(10, chain + "f=9").distance(0, 0));
        edges.due("a shorter way by the tenth part", 2, () -> Draw.one(10, chain + "d1:8:0 f=9").distance(0, 0));
    }

    private void noPortReached() {
        edges.sentence(HERE, "99 if no port can be reached");
        due("no port", "n0@99:2/0 p0@99:1/0", Draw.one(2, "r1:0:1"));
        due("no way to the port", "n0@0:1/0 p0@0:1/0 n1@1:1/0 n2@99:2/0 p1@99:1/0",
                Draw.one(4, "r1:0:1 r1:2:3 a=0"));
        due("a port in the other circuit", "n100@0:0/1 p100@0:0/1 n101@1:0/1 n0@99:2/0 p0@99:1/0",
                Draw.both(2, "r1:0:1", "r1:0:1 a=0"));
        due("a net without pins", "n0@0:1/0 n1@99:1/0", Draw.one(2, "a=0"));
    }

    private void unequalClasses() {
        edges.sentence(HERE, "A class is unequal if it has not as many members in both circuits.");
        due("none and none", "", new Netcompare());
        due("one and one", "", Draw.both(1, "r1:0:0", "r1:0:0"));
        due("two and two", "", Draw.both(2, "r1:0:0 r1:1:1", "r1:0:0 r1:1:1"));
        due("two and one", "n0@99:2/1 n101@99:0/1 p0@99:2/1", Draw.both(2, "r1:0:0 r1:1:1", "r1:0:0"));
        due("one and two", "n0@99:1/2 n1@99:1/0 p0@99:1/2", Draw.both(2, "r1:0:0", "r1:0:0 r1:1:1"));
        due("ten and ten", "", Draw.both(10, "", ""));
        Netcompare x = Draw.both(9, "", "");
        x.addNet(1);
        due("nine and ten", "n0@99:9/10", x);
        Netcompare parts = Draw.both(1, "r1:0:0 d1:0:0", "d1:0:0 r1:0:0");
        due("as many of each kind", "", parts);
        parts.removePart(0, 0);
        due("a removed part is no member", "n0@99:1/0 n100@99:0/1 p1@99:1/0 p100@99:0/1 p101@99:0/1", parts);
    }

    private void risingDistance() {
        edges.sentence(HERE, "Differences are the unequal classes by rising distance");
        due("parts at 0 ahead of nets at 1, a low number far away behind", "n3@0:1/0 p2@0:1/0 n2@1:1/0 p1@1:1/0 "
                + "n1@2:1/0 p0@2:1/0 n0@3:1/0", Draw.one(4, "r1:0:1 r1:1:2 r1:2:3 a=3"));
        due("drawn ones at 0 ahead of wished ones at 99", "n101@0:0/1 n0@99:2/1", Draw.both(2, "", "a=1"));
        Netcompare x = Draw.one(10, "r1:0:1 r1:1:2 r1:2:3 r1:3:4 r1:4:5 r1:5:6 r1:6:7 r1:7:8 r1:8:9 a=0");
        edges.due("ten distances", 19, () -> x.differences());
        for (int net = 0; net < 10; net++) {
            int number = net;
            edges.due("the net " + net, "n" + net + "@" + net, () -> "" + x.differenceKind(2 * number)
                    + x.differenceMember(2 * number) + "@" + x.differenceDistance(2 * number));
        }
    }

    private void netsAheadOfParts() {
        edges.sentence(HERE, "at the same distance those of nets ahead of those of parts");
        due("a net 9 and a part 0", "n9@0:1/0 p0@0:1/0 n0@99:9/10", Draw.both(10, "r1:9:9 a=9", ""));
        due("a drawn net and a wished part", "n0@99:1/0 n100@99:0/1 p0@99:1/0 p100@99:0/1",
                Draw.both(1, "r1:0:0", "c1:0:0"));
    }

    private void lowestWishedMember() {
        edges.sentence(HERE, "then by the lowest number of a member in the wished circuit");
        due("not by the lowest drawn one",
                "n0@99:1/2 n1@99:1/0 n2@99:1/0 n100@99:0/1 p0@99:1/2 p1@99:1/0 p102@99:0/1",
                Draw.both(3, "r1:0:0 r2:1:1", "r1:2:2 r1:1:1 r3:0:0"));
        due("the lowest of several", "n0@99:1/0 n1@99:9/10 p0@99:1/0", Draw.both(10, "r1:0:0", ""));
        Netcompare x = Draw.both(1, "r1:0:0 r1:0:0 r1:0:0", "");
        x.removePart(0, 0);
        due("not a removed one", "n0@99:1/0 n100@99:0/1 p1@99:2/0", x);
    }

    private void lowestDrawnMember() {
        edges.sentence(HERE, "or, if it has none there, 100 plus the lowest one in the drawn circuit");
        due("the lowest of several", "n0@99:1/0 n1@99:2/0 n100@99:0/1 n101@99:0/2 p0@99:1/0 p100@99:0/2 p102@99:0/1",
                Draw.both(3, "r1:0:0", "r2:1:1 r2:2:2 c1:0:0"));
        due("drawn 0 behind wished 9", "n9@0:1/0 n100@0:0/1", Draw.both(10, "a=9", "b=0"));
        due("the last drawn net", "n109@0:0/1 n0@99:10/9", Draw.both(10, "", "f=9"));
        Netcompare x = Draw.both(1, "", "r1:0:0 ".repeat(10));
        for (int part = 0; part < 9; part++) {
            x.removePart(1, part);
        }
        due("the last drawn part", "n0@99:1/0 n100@99:0/1 p109@99:0/1", x);
    }
}
