/** Promises 29 to 34: matches. */
public final class MatchTest {
    private static final Check CHECK = new Check("MatchTest");
    private static final String RING = "r1:0:1 r1:1:2 r1:2:3 r1:3:4 r1:4:5 r1:5:0";
    private static final String TWO_RINGS = "r1:0:1 r1:1:2 r1:2:0 r1:3:4 r1:4:5 r1:5:3";

    public static void main(String[] args) {
        promise29And30Matched();
        promise29And30NotMatched();
        promise30TooManyNets();
        promise31And32FirstMatch();
        promise31And32NetsAlone();
        promise31And32Wrong();
        promise33FirstPart();
        promise33Wrong();
        promise34Pins();
        promise34Wrong();
        changesAreSeen();
        CHECK.finish();
    }

    private static String both(Netcompare x) {
        return x.isMatched() + " " + x.isMatchedByTrying();
    }

    private static void promise29And30Matched() {
        CHECK.due("nothing", "true true", () -> both(new Netcompare()));
        CHECK.due("nets alone", "true true", () -> both(Draw.both(6, "", "")));
        CHECK.due("swapped pins", "true true", () -> both(
                Draw.both(3, "r1:0:1 t2:0:1:2 a=0", "t2:2:1:0 r1:0:2 a=2")));
        CHECK.due("the same rings", "true true", () -> both(Draw.both(6, RING, "r1:3:0 r1:0:5 r1:5:1 r1:1:4 r1:4:2 r1:2:3")));
    }

    private static void promise29And30NotMatched() {
        CHECK.due("alike, but no match", "false false", () -> both(Draw.both(6, RING, TWO_RINGS)));
        CHECK.due("a letter", "false false", () -> both(Draw.both(1, "a=0", "b=0")));
        CHECK.due("a port more", "false false", () -> both(Draw.both(1, "a=0", "")));
        CHECK.due("a value", "false false", () -> both(Draw.both(2, "r1:0:1", "r2:0:1")));
        CHECK.due("a kind", "false false", () -> both(Draw.both(2, "r1:0:1", "c1:0:1")));
        CHECK.due("a part more", "false false", () -> both(Draw.both(2, "r1:0:1", "r1:0:1 r1:0:1")));
        CHECK.due("a part less", "false false", () -> both(Draw.both(2, "r1:0:1 r1:0:1", "r1:0:1")));
        CHECK.due("a diode turned", "false false", () -> both(Draw.both(2, "d1:0:1 a=0", "d1:1:0 a=0")));
        CHECK.due("pin 0 of a transistor", "false false", () -> both(Draw.both(2, "t1:0:0:1 a=0", "t1:1:0:0 a=0")));
        Netcompare x = Draw.both(1, "", "");
        x.addNet(1);
        CHECK.due("a net more", "false false", () -> both(x));
    }

    private static void promise30TooManyNets() {
        Netcompare x = Draw.both(6, "", "");
        x.addNet(1);
        CHECK.due("seven drawn nets", Check.UNSUPPORTED, () -> x.isMatchedByTrying());
        CHECK.due("net of seven drawn nets", Check.UNSUPPORTED, () -> x.netByTrying(0));
        x.addNet(0);
        CHECK.due("seven nets", Check.UNSUPPORTED, () -> x.isMatchedByTrying());
        CHECK.due("by colours", true, () -> x.isMatched());
        Netcompare y = Draw.one(7, "");
        CHECK.due("seven wished nets", Check.UNSUPPORTED, () -> y.isMatchedByTrying());
        CHECK.due("net ahead of their number", Check.ELEMENT, () -> y.netByTrying(7));
    }

    private static String nets(Netcompare x) {
        StringBuilder all = new StringBuilder();
        for (int net = 0; net < x.nets(0); net++) {
            all.append(x.matchedNet(net)).append(x.netByTrying(net)).append(' ');
        }
        return all.toString();
    }

    private static void promise31And32FirstMatch() {
        CHECK.due("lowest", "00 11 22 33 ", () -> nets(Draw.both(4, "", "")));
        CHECK.due("rings", "00 22 11 33 ", () -> nets(
                Draw.both(4, "r1:0:1 r1:1:2 r1:2:3 r1:3:0", "r1:0:3 r1:3:1 r1:1:2 r1:2:0")));
        // Net 0 can be mapped to 2 or 3, and to 2 only if net 1 goes to 1.
        CHECK.due("two pairs", "22 11 33 00 ", () -> nets(
                Draw.both(4, "d1:1:0 d1:3:2", "d1:0:3 d1:1:2")));
        CHECK.due("ports", "11 00 ", () -> nets(Draw.both(2, "r1:0:1 b=0", "r1:0:1 b=1")));
    }

    /** Loops and pairs that no colour tells apart: where one loop does not fit, none does, but a pair may. */
    private static void promise31And32NetsAlone() {
        CHECK.due("a loop behind a pair", "00 22 33 11 ", () -> nets(
                Draw.both(4, "r1:0:3 r1:3:0 r1:1:1 r1:2:2", "r1:0:1 r1:1:0 r1:2:2 r1:3:3")));
        CHECK.due("a pair behind loops", "22 00 11 33 ", () -> nets(
                Draw.both(4, "r1:0:3 r1:3:0 r1:1:1 r1:2:2", "r1:0:0 r1:1:1 r1:2:3 r1:3:2")));
        CHECK.due("a pair between loops", "11 00 33 22 ", () -> nets(
                Draw.both(4, "r1:0:3 r1:3:0 r1:1:1 r1:2:2", "r1:0:0 r1:1:2 r1:2:1 r1:3:3")));
        CHECK.due("nets without pins", "33 00 11 44 22 ", () -> nets(
                Draw.both(5, "r1:0:3", "r1:3:4")));
        CHECK.due("loops without a pair", "false false", () -> both(
                Draw.both(4, "r1:0:3 r1:3:0 r1:1:1 r1:2:2", "r1:0:0 r1:1:1 r1:2:2 r1:3:3")));
        CHECK.due("transistors on one net", "00 22 33 11 ", () -> nets(
                Draw.both(4, "t1:0:3:3 t1:3:0:0 t1:1:1:1 t1:2:2:2", "t1:0:1:1 t1:1:0:0 t1:2:2:2 t1:3:3:3")));
    }

    private static void promise31And32Wrong() {
        Netcompare x = Draw.both(1, "", "");
        x.addNet(1);
        CHECK.due("no match", Check.STATE, () -> x.matchedNet(0));
        CHECK.due("no match by trying", Check.STATE, () -> x.netByTrying(0));
        CHECK.due("net", Check.ELEMENT, () -> x.matchedNet(1));
        CHECK.due("net -1", Check.ELEMENT, () -> x.matchedNet(-1));
        CHECK.due("net by trying", Check.ELEMENT, () -> x.netByTrying(1));
        CHECK.due("net -1 by trying", Check.ELEMENT, () -> x.netByTrying(-1));
    }

    private static void promise33FirstPart() {
        Netcompare x = Draw.both(3, "r1:0:1 r1:0:1 r2:0:1 r1:1:0", "c9:0:0 r1:1:0 r2:0:1 r1:0:1 r1:0:1");
        x.removePart(1, 0);
        CHECK.due("lowest", 1, () -> x.matchedPart(0));
        CHECK.due("next", 3, () -> x.matchedPart(1));
        CHECK.due("by value", 2, () -> x.matchedPart(2));
        CHECK.due("last", 4, () -> x.matchedPart(3));
        CHECK.due("nets first", 1, () -> Draw.both(4, "r1:2:3 r1:0:1", "r1:0:1 r1:2:3").matchedPart(0));
    }

    private static void promise33Wrong() {
        Netcompare x = Draw.both(2, "r1:0:1 r1:0:1", "r1:0:1 c1:0:1");
        CHECK.due("no match", Check.STATE, () -> x.matchedPart(0));
        x.removePart(0, 1);
        CHECK.due("removed", Check.ELEMENT, () -> x.matchedPart(1));
        CHECK.due("missing", Check.ELEMENT, () -> x.matchedPart(2));
        CHECK.due("-1", Check.ELEMENT, () -> x.matchedPart(-1));
    }

    private static String pins(Netcompare x, int part, int count) {
        StringBuilder all = new StringBuilder();
        for (int pin = 0; pin < count; pin++) {
            all.append(x.matchedPin(part, pin));
        }
        return all.toString();
    }

    private static void promise34Pins() {
        CHECK.due("straight", "01", () -> pins(Draw.both(2, "r1:0:1 a=0", "r1:0:1 a=0"), 0, 2));
        CHECK.due("crossed", "10", () -> pins(Draw.both(2, "r1:0:1 a=0", "r1:0:1 a=1"), 0, 2));
        CHECK.due("both right", "01", () -> pins(Draw.both(1, "r1:0:0", "r1:0:0"), 0, 2));
        CHECK.due("diode", "01", () -> pins(Draw.both(2, "d1:0:1", "d1:1:0"), 0, 2));
        CHECK.due("transistor crossed", "021", () -> pins(Draw.both(3, "t1:0:1:2 a=1", "t1:0:1:2 a=2"), 0, 3));
        CHECK.due("transistor straight", "012", () -> pins(Draw.both(3, "t1:0:1:2 a=1", "t1:0:1:2 a=1"), 0, 3));
        CHECK.due("transistor both right", "012", () -> pins(Draw.both(2, "t1:0:1:1", "t1:1:0:0"), 0, 3));
    }

    private static void promise34Wrong() {
        Netcompare x = Draw.both(2, "r1:0:1 t1:0:1:1 c1:0:1", "r2:0:1");
        x.removePart(0, 2);
        CHECK.due("removed", Check.ELEMENT, () -> x.matchedPin(2, 9));
        CHECK.due("missing", Check.ELEMENT, () -> x.matchedPin(3, 0));
        CHECK.due("pin 2 of r", Check.INDEX, () -> x.matchedPin(0, 2));
        CHECK.due("pin 3 of t", Check.INDEX, () -> x.matchedPin(1, 3));
        CHECK.due("pin -1", Check.INDEX, () -> x.matchedPin(1, -1));
        CHECK.due("no match", Check.STATE, () -> x.matchedPin(1, 2));
    }

    /** Each change must end what had been found out before it. */
    private static void changesAreSeen() {
        Netcompare x = Draw.both(3, "r1:0:1 r1:1:2 t5:0:1:2", "r1:0:1 r1:1:2 t5:0:1:2");
        CHECK.due("the same", "true true", () -> both(x));
        x.setValue(0, 0, 7);
        CHECK.due("setValue", "false false", () -> both(x));
        x.setValue(1, 0, 7);
        CHECK.due("setValue in both", "true true", () -> both(x));
        x.rewire(1, 2, 0, 1);
        CHECK.due("rewire", "false false", () -> both(x));
        x.copyWished();
        CHECK.due("copyWished", "true true", () -> both(x));
        x.setPort(0, 0, 'a');
        CHECK.due("setPort", "false false", () -> both(x));
        x.setPort(1, 0, 'a');
        CHECK.due("setPort in both", "true true", () -> both(x));
        CHECK.due("straight pins", "012", () -> pins(x, 2, 3));
        x.swapPins(1, 2);
        CHECK.due("swapPins", "021", () -> pins(x, 2, 3));
        x.removePart(0, 2);
        CHECK.due("removePart", "false false", () -> both(x));
        x.removePart(1, 2);
        CHECK.due("removePart in both", "true true", () -> both(x));
        x.join(0, 0, 1);
        CHECK.due("join", "false false", () -> both(x));
        x.joinAll(1);
        CHECK.due("joinAll", "true true", () -> both(x));
        x.addNet(0);
        CHECK.due("addNet", "false false", () -> both(x));
        x.addNet(1);
        CHECK.due("addNet in both", "true true", () -> both(x));
        Draw.part(x, 1, "d4:0:3");
        CHECK.due("addPart", "false false", () -> both(x));
    }
}
