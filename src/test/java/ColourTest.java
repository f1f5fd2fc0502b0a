/** Promises 23 to 28: colours and classes. */
public final class ColourTest {
    private static final Check CHECK = new Check("ColourTest");
    private static final String RING = "r1:0:1 r1:1:2 r1:2:3 r1:3:4 r1:4:5 r1:5:0";
    private static final String TWO_RINGS = "r1:0:1 r1:1:2 r1:2:0 r1:3:4 r1:4:5 r1:5:3";

    public static void main(String[] args) {
        firstColours();
        roundsOfAChain();
        pinsThatSwapAreAlike();
        pinsThatStayAreNot();
        kindsAndValuesAreNotMixedUp();
        pinsCountAsOftenAsTheyCome();
        roundsGoOnInBoth();
        fullCircuits();
        emptyCircuits();
        changesAreSeen();
        promise26NetsLike();
        promise27PartsLike();
        promise28AreAlike();
        CHECK.finish();
    }

    private static String classes(Netcompare x) {
        return x.rounds() + " " + x.netClasses() + " " + x.partClasses();
    }

    private static void firstColours() {
        CHECK.due("kinds and values", "0 3 4", () -> classes(
                Draw.one(3, "r1:0:0 r2:0:0 c1:0:0 t1:0:0:0 a=1")));
        CHECK.due("letters", "0 3 0", () -> classes(Draw.both(2, "a=0", "b=0")));
        CHECK.due("same letters", "0 2 0", () -> classes(Draw.both(2, "a=0", "a=1")));
    }

    private static void roundsOfAChain() {
        CHECK.due("a chain with a port", "1 3 2", () -> classes(Draw.one(3, "r1:0:1 r1:1:2 a=0")));
        CHECK.due("a chain without", "0 2 1", () -> classes(Draw.one(3, "r1:0:1 r1:1:2")));
        CHECK.due("a longer chain", "2 3 2", () -> classes(Draw.one(5, "r1:0:1 r1:1:2 r1:2:3 r1:3:4")));
        CHECK.due("rings look alike", "0 1 1", () -> classes(Draw.both(6, RING, TWO_RINGS)));
    }

    private static void pinsThatSwapAreAlike() {
        CHECK.due("a resistor", "0 1 1", () -> classes(Draw.one(2, "r1:0:1")));
        CHECK.due("a crossed resistor", "0 2 1", () -> classes(Draw.both(2, "r1:0:1 a=0", "r1:1:0 a=0")));
        CHECK.due("a transistor", "1 2 1", () -> classes(Draw.one(3, "t1:0:1:2")));
    }

    private static void pinsThatStayAreNot() {
        CHECK.due("a diode", "1 2 1", () -> classes(Draw.one(2, "d1:0:1")));
        CHECK.due("a crossed diode", "1 4 2", () -> classes(Draw.both(2, "d1:0:1 a=0", "d1:1:0 a=0")));
    }

    /** Parts whose values are the numbers of the other one's kind as a character. */
    private static void kindsAndValuesAreNotMixedUp() {
        String kinds = "rcdt";
        for (char one : kinds.toCharArray()) {
            for (char other : kinds.toCharArray()) {
                Netcompare x = Draw.one(1, "");
                x.addPart(0, one, other, 0, 0, one == 't' ? 0 : -1);
                x.addPart(0, other, one, 0, 0, other == 't' ? 0 : -1);
                CHECK.due(one + " and " + other, one == other ? 1 : 2, () -> x.partClasses());
            }
        }
    }

    private static void pinsCountAsOftenAsTheyCome() {
        // Nets 0 and 1 have three pins each, of the same two kinds of parts, but not as often.
        CHECK.due("as often", false, () -> Draw.both(2, "r1:0:0 c1:0:1", "r1:0:1 c1:0:0").areAlike(0, 0));
        CHECK.due("parts on one net", "1 3 2", () -> classes(Draw.both(2, "r1:0:0", "r1:0:1")));
    }

    private static void roundsGoOnInBoth() {
        String chain = "r1:0:1 r1:1:2 r1:2:3 r1:3:4 r1:4:5 a=0";
        CHECK.due("in one", "4 6 5", () -> classes(Draw.one(6, chain)));
        CHECK.due("in both", "4 6 5", () -> classes(Draw.both(6, chain, chain)));
        CHECK.due("more classes over both", "4 11 8",
                () -> classes(Draw.both(6, chain, "r1:0:1 r1:1:2 r1:3:4 r1:4:5 a=0")));
    }

    private static void fullCircuits() {
        String parts = "t1:0:0:0 t2:0:0:0 t3:0:0:0 t4:0:0:0 t5:0:0:0 t6:0:0:0 t7:0:0:0 t8:0:0:0 t9:0:0:0 ";
        CHECK.due("the last of 30 pins", "2 2 20", () -> classes(
                Draw.both(1, parts + "t10:0:0:0", parts + "t11:0:0:0")));
        CHECK.due("all of both apart", "1 20 20", () -> classes(Draw.both(10, loops(1), loops(2))));
    }

    /** Ten nets and parts that nothing else has. */
    private static String loops(int circuit) {
        StringBuilder text = new StringBuilder();
        for (int net = 0; net < 10; net++) {
            text.append(" t").append(circuit * 10 + net).append(":" + net).append(":" + net).append(":" + net);
        }
        return text.toString();
    }

    private static void changesAreSeen() {
        CHECK.due("netClasses first of all", 2, () -> Draw.one(2, "a=0").netClasses());
        CHECK.due("partClasses first of all", 2, () -> Draw.one(2, "r1:0:1 c1:0:1").partClasses());
        CHECK.due("netsLike first of all", 2, () -> Draw.one(2, "r1:0:1").netsLike(0, 0, 0));
        CHECK.due("partsLike first of all", 1, () -> Draw.one(2, "r1:0:1").partsLike(0, 0, 0));
        CHECK.due("areAlike first of all", true, () -> Draw.both(1, "", "").areAlike(0, 0));
        Netcompare x = Draw.both(2, "r1:0:1", "r1:0:1");
        CHECK.due("before", "0 1 1", () -> classes(x));
        x.setValue(1, 0, 2);
        CHECK.due("another value", "1 2 2", () -> classes(x));
        x.setPort(0, 0, 'a');
        CHECK.due("a port", "1 3 2", () -> classes(x));
        x.copyWished();
        CHECK.due("a copy", "0 2 1", () -> classes(x));
        x.addNet(1);
        CHECK.due("a net more", "0 3 1", () -> classes(x));
        x.removePart(0, 0);
        CHECK.due("a part less", "0 4 1", () -> classes(x));
    }

    private static void emptyCircuits() {
        CHECK.due("nothing", "0 0 0", () -> classes(new Netcompare()));
        CHECK.due("nets alone", "0 1 0", () -> classes(Draw.both(4, "", "")));
    }

    private static void promise26NetsLike() {
        Netcompare x = Draw.both(4, "r1:0:1 r1:1:2 a=0", "r1:2:1 r1:1:3 r1:0:0 a=2");
        CHECK.due("no pins in both", 1, () -> x.netsLike(0, 3, 0));
        CHECK.due("no pins in the drawn one", 0, () -> x.netsLike(0, 3, 1));
        CHECK.due("middle", 1, () -> x.netsLike(0, 1, 1));
        CHECK.due("from the drawn one", 1, () -> x.netsLike(1, 3, 0));
        CHECK.due("a loop", 0, () -> x.netsLike(1, 0, 0));
        CHECK.due("two rings", 6, () -> Draw.both(6, RING, TWO_RINGS).netsLike(0, 0, 1));
        CHECK.due("circuit", Check.ARGUMENT, () -> x.netsLike(2, 0, 0));
        CHECK.due("of", Check.ARGUMENT, () -> x.netsLike(0, 9, 2));
        CHECK.due("of -1", Check.ARGUMENT, () -> x.netsLike(0, 0, -1));
        CHECK.due("net", Check.ELEMENT, () -> x.netsLike(0, 4, 1));
        CHECK.due("net -1", Check.ELEMENT, () -> x.netsLike(0, -1, 1));
    }

    private static void promise27PartsLike() {
        Netcompare x = Draw.both(3, "r1:0:1 r1:1:2 r1:2:0 c1:0:0", "r1:0:1 r1:1:2 r1:2:0");
        CHECK.due("beside the capacitor", 2, () -> x.partsLike(0, 0, 0));
        CHECK.due("none so in the drawn one", 0, () -> x.partsLike(0, 0, 1));
        x.removePart(0, 3);
        CHECK.due("behind the removal", 3, () -> x.partsLike(0, 0, 1));
        CHECK.due("removed", Check.ELEMENT, () -> x.partsLike(0, 3, 0));
        CHECK.due("missing", Check.ELEMENT, () -> x.partsLike(1, 3, 0));
        CHECK.due("circuit", Check.ARGUMENT, () -> x.partsLike(2, 0, 0));
        CHECK.due("of", Check.ARGUMENT, () -> x.partsLike(0, 9, 2));
    }

    private static void promise28AreAlike() {
        Netcompare x = Draw.both(3, "d1:0:1 a=2", "d1:1:0 b=2");
        CHECK.due("anodes", true, () -> x.areAlike(0, 1));
        CHECK.due("anode and cathode", false, () -> x.areAlike(0, 0));
        CHECK.due("other letters", false, () -> x.areAlike(2, 2));
        x.addNet(0);
        CHECK.due("wished", Check.ELEMENT, () -> x.areAlike(4, 0));
        CHECK.due("drawn", Check.ELEMENT, () -> x.areAlike(3, 3));
        CHECK.due("both", Check.ELEMENT, () -> x.areAlike(-1, -1));
    }
}
