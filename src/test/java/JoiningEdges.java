/** The sentences under "Joining". */
final class JoiningEdges {
    private static final String HERE = "Joining";

    private final Edges edges;

    JoiningEdges(Edges edges) {
        this.edges = edges;
    }

    void run() {
        parallel();
        series();
        noPortBetween();
        noOtherPinsBetween();
        otherNets();
        joinedInSeries();
        netsInSeries();
        joinedInParallel();
        roundedDown();
        atLeastOne();
        capacitors();
        greaterThan999();
        lowestPairFirst();
        untilThereAreNone();
        netsWithoutPins();
    }

    /** Asks for the parts 0 and 1, both ways round, drawn as resistors and then as capacitors. */
    private void way(String call, char want, int nets, String members) {
        for (char kind : "rc".toCharArray()) {
            Netcompare x = Draw.one(nets, members.replace('R', kind));
            edges.due(call + ", " + kind, want, () -> x.canJoin(0, 0, 1));
            edges.due(call + ", the other way round, " + kind, want, () -> x.canJoin(0, 1, 0));
        }
    }

    private void parallel() {
        edges.sentence(HERE, "Two different resistors are in parallel if they have the same two different nets;");
        way("the same nets", 'p', 2, "R1:0:1 R2:0:1");
        way("the same nets turned", 'p', 2, "R1:0:1 R2:1:0");
        way("ports and other pins on them", 'p', 2, "R1:0:1 R2:0:1 a=0 b=1 R3:0:1 t1:0:1:1");
        way("the same single net", '-', 1, "R1:0:0 R2:0:0");
        way("one of both nets", '-', 3, "R1:0:1 R2:0:2 d1:0:0");
        way("one with a single net", '-', 2, "R1:0:1 R2:0:0");
        way("none of both nets", '-', 4, "R1:0:1 R2:2:3");
        edges.due("a part and itself", '-', () -> Draw.one(2, "r1:0:1").canJoin(0, 0, 0));
        edges.due("a resistor and a capacitor", '-', () -> Draw.one(2, "r1:0:1 c1:0:1").canJoin(0, 0, 1));
        edges.due("two diodes", '-', () -> Draw.one(2, "d1:0:1 d1:0:1").canJoin(0, 0, 1));
        edges.due("two transistors", '-', () -> Draw.one(2, "t1:0:1:1 t1:0:1:1").canJoin(0, 0, 1));
    }

    private void series() {
        edges.sentence(HERE, "they are in series if they have one net in common");
        way("first pins", 's', 3, "R1:1:0 R2:1:2");
        way("last pins", 's', 3, "R1:0:1 R2:2:1");
        way("last and first pin", 's', 3, "R1:0:1 R2:1:2");
        way("first and last pin", 's', 3, "R1:1:0 R2:2:1");
        way("no net in common", '-', 4, "R1:0:1 R2:2:3");
        edges.due("a resistor and a capacitor", '-', () -> Draw.one(3, "r1:0:1 c1:1:2").canJoin(0, 0, 1));
        edges.due("two diodes", '-', () -> Draw.one(3, "d1:0:1 d1:1:2").canJoin(0, 0, 1));
        edges.due("two transistors", '-', () -> Draw.one(3, "t1:0:0:1 t1:1:2:2").canJoin(0, 0, 1));
        edges.due("a part and itself", '-', () -> Draw.one(1, "r1:0:0").canJoin(0, 0, 0));
    }

    private void noPortBetween() {
        edges.sentence(HERE, "this net is not a port");
        way("a port between", '-', 3, "R1:0:1 R2:1:2 f=1");
        way("ports on both ends", 's', 3, "R1:0:1 R2:1:2 a=0 f=2");
        Netcompare x = Draw.one(3, "r1:0:1 r2:1:2 a=1");
        x.setPort(0, 1, '-');
        edges.due("no port any longer", 's', () -> x.canJoin(0, 0, 1));
    }

    private void noOtherPinsBetween() {
        edges.sentence(HERE, "has no pins but one of each of both");
        way("a pin of a third part", '-', 3, "R1:0:1 R2:1:2 R3:1:0");
        way("a pin of a diode", '-', 3, "R1:0:1 R2:1:2 d1:0:1");
        way("a pin of a transistor", '-', 3, "R1:0:1 R2:1:2 t1:0:0:1");
        way("two pins of one, one of the other", '-', 2, "R1:1:1 R2:0:1");
        way("one of one, two pins of the other", '-', 2, "R1:0:1 R2:1:1");
        way("two pins of one alone", '-', 3, "R1:1:1 R2:0:2");
        way("pins on the ends", 's', 3, "R1:0:1 R2:1:2 R3:0:2 d1:0:2");
        Netcompare x = Draw.one(3, "r1:0:1 r2:1:2 r3:1:1");
        x.removePart(0, 2);
        edges.due("the third part removed", 's', () -> x.canJoin(0, 0, 1));
    }

    private void otherNets() {
        edges.sentence(HERE, "their other nets are two different ones");
        way("the other nets are one", 'p', 2, "R4:0:1 R4:1:0");
        way("the other nets are two", 's', 3, "R4:0:1 R4:1:2");
        edges.due("one other net: joined as in parallel", "2 r2:0:1---------", () -> joined(2, "r4:0:1 r4:1:0"));
    }

    /** The joined value and all parts, when the parts 0 and 1 are joined. */
    private static String joined(int nets, String members) {
        Netcompare x = Draw.one(nets, members);
        return x.join(0, 0, 1) + " " + Draw.labels(x, 0);
    }

    private void joinedInSeries() {
        edges.sentence(HERE, "the one with the lower number gets the sum of both values, and is on both other nets");
        edges.due("the sum", "30 r30:0:2---------", () -> joined(3, "r10:0:1 r20:1:2"));
        edges.due("the least sum", "2 r2:0:2---------", () -> joined(3, "r1:0:1 r1:1:2"));
        Netcompare x = Draw.one(4, "d1:3:3 r10:0:1 d1:3:3 r20:1:2");
        edges.due("the higher number named first", 30, () -> x.join(0, 3, 1));
        edges.due("the lower number stays", "d1:3:3 r30:0:2 d1:3:3-------", () -> Draw.labels(x, 0));
        edges.due("the other one is removed", Check.ELEMENT, () -> x.valueOf(0, 3));
    }

    private void netsInSeries() {
        edges.sentence(HERE, "with its pin 0 on its own other net; the other one is removed.");
        edges.due("own net by pin 0, other by pin 1", "3 r3:0:2---------", () -> joined(3, "r1:0:1 r2:1:2"));
        edges.due("own net by pin 0, other by pin 0", "3 r3:0:2---------", () -> joined(3, "r1:0:1 r2:2:1"));
        edges.due("own net by pin 1, other by pin 1", "3 r3:0:2---------", () -> joined(3, "r1:1:0 r2:1:2"));
        edges.due("own net by pin 1, other by pin 0", "3 r3:0:2---------", () -> joined(3, "r1:1:0 r2:2:1"));
        edges.due("own net is the higher one", "3 r3:2:0---------", () -> joined(3, "r1:2:1 r2:0:1"));
        edges.due("own net is the higher one, by pin 1", "3 r3:2:0---------", () -> joined(3, "r1:1:2 r2:1:0"));
    }

    private void joinedInParallel() {
        edges.sentence(HERE, "When two in parallel are joined, the one with the lower number gets the product of both "
                + "values divided by their sum");
        edges.due("no rest", "10 r10:0:1---------", () -> joined(2, "r15:0:1 r30:0:1"));
        edges.due("its own pins stay", "10 r10:1:0---------", () -> joined(2, "r15:1:0 r30:0:1"));
        Netcompare x = Draw.one(2, "r30:0:1 r15:1:0");
        edges.due("the higher number named first", 10, () -> x.join(0, 1, 0));
        edges.due("the lower number stays", "r10:0:1---------", () -> Draw.labels(x, 0));
        edges.due("the other one is removed", Check.ELEMENT, () -> x.netOf(0, 1, 0));
    }

    private int parallelValue(char kind, int one, int other) {
        return Draw.one(2, kind + "" + one + ":0:1 " + kind + other + ":1:0").join(0, 0, 1);
    }

    private int seriesValue(char kind, int one, int other) {
        return Draw.one(3, kind + "" + one + ":0:1 " + kind + other + ":1:2").join(0, 0, 1);
    }

    private void roundedDown() {
        edges.sentence(HERE, "rounded down, but at least 1");
        edges.due("1.5", 1, () -> parallelValue('r', 3, 3));
        edges.due("6.67", 6, () -> parallelValue('r', 10, 20));
        edges.due("1.996", 1, () -> parallelValue('r', 2, 998));
        edges.due("499.5", 499, () -> parallelValue('r', 999, 999));
        edges.due("exactly 2", 2, () -> parallelValue('r', 4, 4));
        edges.due("exactly 333", 333, () -> parallelValue('r', 666, 666));
    }

    private void atLeastOne() {
        edges.sentence(HERE, "but at least 1, and the other one is removed");
        edges.due("0.5", 1, () -> parallelValue('r', 1, 1));
        edges.due("0.67", 1, () -> parallelValue('r', 1, 2));
        edges.due("0.999", 1, () -> parallelValue('r', 1, 999));
        edges.due("0.999 the other way round", 1, () -> parallelValue('r', 999, 1));
        edges.due("exactly 1", 1, () -> parallelValue('r', 2, 2));
        edges.due("the part has the value", "1 r1:0:1---------", () -> joined(2, "r1:0:1 r1:0:1"));
    }

    private void capacitors() {
        edges.sentence(HERE, "Capacitors are joined in the same way, with the sum in parallel and the product divided "
                + "by the sum in series.");
        edges.due("the sum in parallel", 30, () -> parallelValue('c', 10, 20));
        edges.due("the least sum", 2, () -> parallelValue('c', 1, 1));
        edges.due("10 in series", 10, () -> seriesValue('c', 15, 30));
        edges.due("6.67 in series", 6, () -> seriesValue('c', 10, 20));
        edges.due("0.5 in series", 1, () -> seriesValue('c', 1, 1));
        edges.due("499.5 in series", 499, () -> seriesValue('c', 999, 999));
        edges.due("own net first in series", "2 c2:2:0---------", () -> joined(3, "c4:1:2 c4:1:0"));
        edges.due("its own pins stay in parallel", "3 c3:1:0---------", () -> joined(2, "c1:1:0 c2:0:1"));
    }

    private void greaterThan999() {
        edges.sentence(HERE, "A joined value that would be greater than 999 is 999.");
        edges.due("998", 998, () -> seriesValue('r', 499, 499));
        edges.due("999", 999, () -> seriesValue('r', 500, 499));
        edges.due("1000", 999, () -> seriesValue('r', 500, 500));
        edges.due("1998", 999, () -> seriesValue('r', 999, 999));
        edges.due("998 of capacitors", 998, () -> parallelValue('c', 997, 1));
        edges.due("999 of capacitors", 999, () -> parallelValue('c', 998, 1));
        edges.due("1000 of capacitors", 999, () -> parallelValue('c', 999, 1));
        edges.due("1998 of capacitors", 999, () -> parallelValue('c', 999, 999));
        edges.due("the part has 999", "999 r999:0:2---------", () -> joined(3, "r999:0:1 r1:1:2"));
        edges.due("again and again", "2 r999:0:3--------- 4", () -> allJoined(4, "r600:0:1 r600:1:2 r600:2:3"));
    }

    /** How often parts are joined, all parts and the number of nets, when all of the circuit is joined. */
    private static String allJoined(int nets, String members) {
        Netcompare x = Draw.one(nets, members);
        return x.joinAll(0) + " " + Draw.labels(x, 0) + " " + x.nets(0);
    }

    private void lowestPairFirst() {
        edges.sentence(HERE, "of all pairs of parts of the same kind that are in series or in parallel, the one with "
                + "the lowest first number, of several with the lowest second number, is joined");
        // 5 || 8 = 3 and 3 || 7 = 2; 5 || 7 first, or 8 || 7 first, would end in 1.
        edges.due("three in parallel", "2 r2:0:1--------- 2", () -> allJoined(2, "r5:0:1 r8:0:1 r7:0:1"));
        // The same 5, 8 and 7; the series of 3 and 4 first would make 5 || 7 the next one.
        edges.due("a pair in parallel ahead of one in series", "3 r2:0:2--------- 3",
                () -> allJoined(3, "r5:0:2 r3:0:1 r8:0:2 r4:1:2 a=0 b=2"));
        // Without ports 5 || 8 = 3 is in series with the 3 on the net 0, and with the 4 on the net 2.
        edges.due("two pairs in series", "3 r2:2:1--------- 3", () -> allJoined(3, "r5:0:2 r3:0:1 r8:0:2 r4:1:2"));
        edges.due("parts between and removed ones", "2 d1:0:0- r2:0:1------- 2", () -> {
            Netcompare x = Draw.one(2, "d1:0:0 r9:0:1 r5:0:1 r8:0:1 r7:0:1");
            x.removePart(0, 1);
            return x.joinAll(0) + " " + Draw.labels(x, 0) + " " + x.nets(0);
        });
        edges.due("two kinds by turns", "2 r3:0:2 c7:0:2-------- 3", () -> allJoined(3, "r1:0:1 c3:0:2 r2:1:2 c4:0:2"));
    }

    private void untilThereAreNone() {
        edges.sentence(HERE, "until there are none");
        edges.due("none at all", "0 r1:0:1 c1:0:1 d1:0:1 d1:0:1------ 2",
                () -> allJoined(2, "r1:0:1 c1:0:1 d1:0:1 d1:0:1"));
        edges.due("no parts", "0 ---------- 1", () -> allJoined(1, ""));
        edges.due("ten in parallel", "9 c10:0:1--------- 2", () -> allJoined(2, "c1:0:1 ".repeat(10)));
        edges.due("nine in a chain", "8 r9:0:9--------- 10", () -> allJoined(10,
                "r1:0:1 r1:1:2 r1:2:3 r1:3:4 r1:4:5 r1:5:6 r1:6:7 r1:7:8 r1:8:9"));
        edges.due("a ring leaves one part", "3 r1:0:3--------- 4",
                () -> allJoined(4, "r1:0:1 r1:1:2 r1:2:3 r1:3:0"));
        edges.due("a ring with a port leaves one part", "3 r1:1:2--------- 4",
                () -> allJoined(4, "r1:0:1 r1:1:2 r1:2:3 r1:3:0 a=1"));
        Netcompare x = Draw.one(3, "r1:0:1 r1:1:2 r1:0:2");
        x.joinAll(0);
        edges.due("none is left", 0, () -> x.joinAll(0));
    }

    private void netsWithoutPins() {
        edges.sentence(HERE, "A net without pins stays.");
        Netcompare x = Draw.one(4, "r1:0:1 r2:1:2 d1:3:3 a=3");
        x.join(0, 0, 1);
        edges.due("all nets", 4, () -> x.nets(0));
        edges.due("no pins on the net between", 0, () -> x.pinsOn(0, 1));
        edges.due("the nets behind it keep their numbers", "r3:0:2- d1:3:3-------", () -> Draw.labels(x, 0));
        edges.due("and their letters", 'a', () -> x.portOf(0, 3));
        edges.due("the net can be used again", 3, () -> x.rewire(0, 2, 0, 1));
        x.removePart(0, 2);
        x.removePart(0, 0);
        edges.due("no pins at all", "4 0", () -> x.nets(0) + " " + x.netsLike(0, 0, 1));
        Netcompare all = Draw.one(3, "r1:0:1 r2:1:2");
        all.joinAll(0);
        edges.due("all joined", "3 0", () -> all.nets(0) + " " + all.pinsOn(0, 1));
        edges.due("the next net is a new one", 3, () -> all.addNet(0));
    }
}
