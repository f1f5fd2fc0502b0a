/** The sentences under "Circuits". */
final class CircuitEdges {
    private static final String HERE = "Circuits";

    private final Edges edges;

    CircuitEdges(Edges edges) {
        this.edges = edges;
    }

    void run() {
        twoCircuits();
        tenNets();
        tenParts();
        numbersInOrder();
        values();
        resistorsAndCapacitors();
        diodes();
        transistors();
        pinsOnOneNet();
        letters();
        lettersOfOthers();
        pinsOfANet();
        numbersOfRemovedParts();
    }

    private void twoCircuits() {
        edges.sentence(HERE, "There are the circuits 0, the wished one, and 1, the drawn one.");
        Netcompare x = Draw.one(2, "r5:0:1");
        x.addNet(1);
        edges.due("each has its own nets", "2 1", () -> x.nets(0) + " " + x.nets(1));
        edges.due("each has its own parts", "1 0", () -> x.parts(0) + " " + x.parts(1));
        x.copyWished();
        edges.due("the circuit 0 is copied", "2 2", () -> x.nets(0) + " " + x.nets(1));
        x.removePart(0, 0);
        Draw.part(x, 0, "c5:0:1");
        edges.due("a part of the circuit 0 is wished", 1, () -> x.differenceMember(2));
        edges.due("a part of the circuit 1 is drawn", 100, () -> x.differenceMember(3));
        edges.due("there is no circuit 2", Check.ARGUMENT, () -> x.addNet(2));
        edges.due("there is no circuit -1", Check.ARGUMENT, () -> x.addNet(-1));
    }

    private void tenNets() {
        edges.sentence(HERE, "at most 10 nets");
        Netcompare x = Draw.both(9, "", "");
        for (int circuit = 0; circuit < 2; circuit++) {
            int at = circuit;
            edges.due("the tenth net", 9, () -> x.addNet(at));
            edges.due("the eleventh net", Check.STATE, () -> x.addNet(at));
            edges.due("the eleventh net again", Check.STATE, () -> x.addNet(at));
            edges.due("all nets", 10, () -> x.nets(at));
            edges.due("the tenth net is used", 0, () -> x.addPart(at, 'r', 1, 9, 9, -1));
        }
    }

    private void tenParts() {
        edges.sentence(HERE, "at most 10 parts");
        Netcompare x = Draw.both(1, "r1:0:0 ".repeat(9), "t1:0:0:0 ".repeat(9));
        for (int circuit = 0; circuit < 2; circuit++) {
            int at = circuit;
            edges.due("the tenth part", 9, () -> Draw.part(x, at, "d1:0:0"));
            edges.due("the eleventh part", Check.STATE, () -> Draw.part(x, at, "d1:0:0"));
            edges.due("the eleventh part again", Check.STATE, () -> Draw.part(x, at, "t1:0:0:0"));
            edges.due("all parts", 10, () -> x.parts(at));
            edges.due("the tenth part is there", 'd', () -> x.kindOf(at, 9));
        }
    }

    private void numbersInOrder() {
        edges.sentence(HERE, "each with numbers from 0 in the order in which they were added");
        Netcompare x = new Netcompare();
        for (int number = 0; number < 10; number++) {
            edges.due("a wished net", number, () -> x.addNet(0));
        }
        edges.due("the first drawn net", 0, () -> x.addNet(1));
        for (int number = 0; number < 10; number++) {
            String label = "rcdr".charAt(number % 4) + "" + (number + 1) + ":" + number + ":0";
            edges.due("a wished part", number, () -> Draw.part(x, 0, label));
        }
        edges.due("the first drawn part", 0, () -> Draw.part(x, 1, "r1:0:0"));
        edges.due("all parts by their numbers",
                "r1:0:0 c2:1:0 d3:2:0 r4:3:0 r5:4:0 c6:5:0 d7:6:0 r8:7:0 r9:8:0 c10:9:0", () -> Draw.labels(x, 0));
    }

    private void values() {
        edges.sentence(HERE, "a value from 1 to 999");
        Netcompare x = Draw.one(1, "r5:0:0");
        for (char kind : "rcdt".toCharArray()) {
            int third = kind == 't' ? 0 : -1;
            edges.due(kind + " of 0", Check.ARGUMENT, () -> x.addPart(0, kind, 0, 0, 0, third));
            edges.due(kind + " of 1000", Check.ARGUMENT, () -> x.addPart(0, kind, 1000, 0, 0, third));
            int number = x.addPart(0, kind, 1, 0, 0, third);
            edges.due(kind + " of 1", 1, () -> x.valueOf(0, number));
            edges.due(kind + " of 999", 999, () -> x.valueOf(0, x.addPart(0, kind, 999, 0, 0, third)));
        }
        edges.due("set to 1", 5, () -> x.setValue(0, 0, 1));
        edges.due("set to 999", 1, () -> x.setValue(0, 0, 999));
        edges.due("set to 1000", Check.ARGUMENT, () -> x.setValue(0, 0, 1000));
        edges.due("set to 0", Check.ARGUMENT, () -> x.setValue(0, 0, 0));
        edges.due("set to -1", Check.ARGUMENT, () -> x.setValue(0, 0, -1));
        edges.due("the value stays", 999, () -> x.valueOf(0, 0));
    }

    private void resistorsAndCapacitors() {
        edges.sentence(HERE, "'r', a resistor, and 'c', a capacitor, have the pins 0 and 1, which can be swapped");
        for (char kind : "rc".toCharArray()) {
            Netcompare x = Draw.both(2, kind + "1:0:1 a=0", kind + "1:1:0 a=0");
            edges.due("the pin 0 of " + kind, 0, () -> x.netOf(0, 0, 0));
            edges.due("the pin 1 of " + kind, 1, () -> x.netOf(0, 0, 1));
            edges.due("the pin 2 of " + kind, Check.INDEX, () -> x.netOf(0, 0, 2));
            edges.due("the pin -1 of " + kind, Check.INDEX, () -> x.netOf(0, 0, -1));
            edges.due("a turned one matches", true, () -> x.isMatched());
            edges.due("the same by trying", true, () -> x.isMatchedByTrying());
            edges.due("a turned one is alike", 1, () -> x.partClasses());
            edges.due("it is turned", 1, () -> x.swapPins(0, 0));
            edges.due("the other pin behind it", 0, () -> x.netOf(0, 0, 1));
        }
    }

    private void diodes() {
        edges.sentence(HERE, "'d', a diode, has the pins 0 and 1, which cannot be swapped");
        Netcompare x = Draw.both(2, "d1:0:1 a=0", "d1:1:0 a=0");
        edges.due("the pin 0", 0, () -> x.netOf(0, 0, 0));
        edges.due("the pin 1", 1, () -> x.netOf(0, 0, 1));
        edges.due("the pin 2", Check.INDEX, () -> x.netOf(0, 0, 2));
        edges.due("the pin -1", Check.INDEX, () -> x.netOf(0, 0, -1));
        edges.due("a turned one does not match", false, () -> x.isMatched());
        edges.due("the same by trying", false, () -> x.isMatchedByTrying());
        edges.due("a turned one is not alike", 2, () -> x.partClasses());
        edges.due("it is not turned", Check.UNSUPPORTED, () -> x.swapPins(0, 0));
        edges.due("no part has a net alike", 0, () -> x.netsLike(0, 1, 1));
    }

    private void transistors() {
        edges.sentence(HERE, "'t', a transistor, has the pins 0, 1 and 2, of which 1 and 2 can be swapped");
        Netcompare x = Draw.one(3, "t1:2:0:1");
        edges.due("the pin 0", 2, () -> x.netOf(0, 0, 0));
        edges.due("the pin 1", 0, () -> x.netOf(0, 0, 1));
        edges.due("the pin 2", 1, () -> x.netOf(0, 0, 2));
        edges.due("the pin 3", Check.INDEX, () -> x.netOf(0, 0, 3));
        edges.due("the pin -1", Check.INDEX, () -> x.netOf(0, 0, -1));
        edges.due("1 and 2 are swapped", 1, () -> x.swapPins(0, 0));
        edges.due("all pins behind it", "t1:2:1:0---------", () -> Draw.labels(x, 0));
        String ports = " a=0 b=1 c=2";
        String[] turned = {"0:1:2", "0:2:1", "1:0:2", "1:2:0", "2:0:1", "2:1:0"};
        for (int index = 0; index < turned.length; index++) {
            boolean isSame = index < 2;
            Netcompare y = Draw.both(3, "t1:0:1:2" + ports, "t1:" + turned[index] + ports);
            edges.due("a match with " + turned[index], isSame, () -> y.isMatched());
            edges.due("the same by trying", isSame, () -> y.isMatchedByTrying());
            edges.due("classes with " + turned[index], isSame ? 1 : 2, () -> y.partClasses());
        }
    }

    private void pinsOnOneNet() {
        edges.sentence(HERE, "Each pin is on a net; several pins of a part can be on the same net.");
        Netcompare x = Draw.one(2, "r1:0:0 t1:1:1:1 c1:0:1 d1:1:1");
        edges.due("both pins of a resistor, one of a capacitor", 3, () -> x.pinsOn(0, 0));
        edges.due("all pins of a transistor and a diode, one of a capacitor", 6, () -> x.pinsOn(0, 1));
        edges.due("a pin put on the net of the other", 1, () -> x.rewire(0, 2, 1, 0));
        edges.due("both pins of the capacitor too", 4, () -> x.pinsOn(0, 0));
        edges.due("swapped on the same net", 1, () -> x.swapPins(0, 1));
        edges.due("a pin on no net", Check.ELEMENT, () -> x.addPart(0, 'r', 1, -1, 0, -1));
        edges.due("a part without nets", Check.ELEMENT, () -> x.addPart(1, 'r', 1, 0, 0, -1));
    }

    private void letters() {
        edges.sentence(HERE, "A net can be a port, with a letter from 'a' to 'f'");
        Netcompare x = Draw.one(7, "");
        for (int net = 0; net < 6; net++) {
            int at = net;
            char letter = (char) ('a' + net);
            edges.due("the letter " + letter, '-', () -> x.setPort(0, at, letter));
            edges.due("the letter is had", letter, () -> x.portOf(0, at));
        }
        edges.due("the sign ahead of a", Check.ARGUMENT, () -> x.setPort(0, 6, '`'));
        edges.due("the letter g", Check.ARGUMENT, () -> x.setPort(0, 6, 'g'));
        edges.due("the letter A", Check.ARGUMENT, () -> x.setPort(0, 6, 'A'));
        edges.due("the letter F", Check.ARGUMENT, () -> x.setPort(0, 6, 'F'));
        edges.due("no letter is left", '-', () -> x.portOf(0, 6));
    }

    private void lettersOfOthers() {
        edges.sentence(HERE, "a letter from 'a' to 'f' that no other net of the circuit has");
        Netcompare x = Draw.both(2, "a=0", "f=1");
        edges.due("that of a net ahead", Check.STATE, () -> x.setPort(0, 1, 'a'));
        edges.due("that of a net behind", Check.STATE, () -> x.setPort(1, 0, 'f'));
        edges.due("its own", 'a', () -> x.setPort(0, 0, 'a'));
        edges.due("that of a net of the other circuit", '-', () -> x.setPort(1, 0, 'a'));
        edges.due("another one instead", 'a', () -> x.setPort(0, 0, 'b'));
        edges.due("one that has been left", '-', () -> x.setPort(0, 1, 'a'));
        edges.due("one for another, not yet left", Check.STATE, () -> x.setPort(0, 1, 'b'));
        edges.due("no letter for one", 'b', () -> x.setPort(0, 0, '-'));
        edges.due("no letter for another one too", 'a', () -> x.setPort(0, 1, '-'));
    }

    private void pinsOfANet() {
        edges.sentence(HERE, "The pins of a net are the pins of parts on it.");
        Netcompare x = Draw.both(2, "t1:0:0:0 ".repeat(10), "r1:0:1");
        edges.due("all pins of ten transistors", 30, () -> x.pinsOn(0, 0));
        edges.due("no pins", 0, () -> x.pinsOn(0, 1));
        edges.due("none of the other circuit", 1, () -> x.pinsOn(1, 1));
        x.removePart(0, 9);
        edges.due("not those of a removed part", 27, () -> x.pinsOn(0, 0));
        x.rewire(0, 0, 2, 1);
        edges.due("a pin that has come", 1, () -> x.pinsOn(0, 1));
        edges.due("without the pin that has gone", 26, () -> x.pinsOn(0, 0));
    }

    private void numbersOfRemovedParts() {
        edges.sentence(HERE, "A part can be removed; its number is not given again.");
        Netcompare x = Draw.one(3, "r1:0:1 r2:0:1");
        x.removePart(0, 1);
        edges.due("behind the removal of the last part", 2, () -> Draw.part(x, 0, "r3:0:1"));
        x.removePart(0, 0);
        edges.due("behind the removal of the first part", 3, () -> Draw.part(x, 0, "r4:1:2"));
        x.join(0, 2, 3);
        edges.due("behind a joining", 4, () -> Draw.part(x, 0, "r5:0:1"));
        x.removePart(0, 4);
        x.copyWished();
        edges.due("in a copy", 5, () -> Draw.part(x, 1, "r6:0:1"));
        edges.due("all parts of the copy", "-- r7:0:2-- r6:0:1----", () -> Draw.labels(x, 1));
        for (int number = 5; number < 10; number++) {
            Draw.part(x, 0, "d1:0:1");
        }
        for (int number = 5; number < 10; number++) {
            x.removePart(0, number);
        }
        edges.due("one part is left", 1, () -> x.parts(0));
        edges.due("no number is left", Check.STATE, () -> Draw.part(x, 0, "d1:0:1"));
    }
}
