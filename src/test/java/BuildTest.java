/** Promises 1 to 9: making and changing circuits. */
public final class BuildTest {
    private static final Check CHECK = new Check("BuildTest");

    public static void main(String[] args) {
        promise1NewObject();
        promise2AddNet();
        promise3SetPort();
        promise4AddPart();
        promise4AllPartsAdded();
        promise5RemovePart();
        promise6SetValue();
        promise7Rewire();
        promise8SwapPins();
        promise9CopyWished();
        CHECK.finish();
    }

    private static void promise1NewObject() {
        Netcompare x = new Netcompare();
        for (int circuit = 0; circuit < 2; circuit++) {
            int at = circuit;
            CHECK.due("nets of a new object", 0, () -> x.nets(at));
            CHECK.due("parts of a new object", 0, () -> x.parts(at));
        }
    }

    private static void promise2AddNet() {
        Netcompare x = new Netcompare();
        for (int circuit = 0; circuit < 2; circuit++) {
            int at = circuit;
            for (int net = 0; net < 10; net++) {
                CHECK.due("addNet", net, () -> x.addNet(at));
            }
            CHECK.due("the eleventh addNet", Check.STATE, () -> x.addNet(at));
            CHECK.due("nets behind it", 10, () -> x.nets(at));
        }
        CHECK.due("addNet(2)", Check.ARGUMENT, () -> x.addNet(2));
        CHECK.due("addNet(-1)", Check.ARGUMENT, () -> x.addNet(-1));
        CHECK.due("port of a new net", '-', () -> x.portOf(0, 9));
    }

    private static void promise3SetPort() {
        Netcompare x = Draw.both(3, "", "");
        CHECK.due("setPort a", '-', () -> x.setPort(0, 0, 'a'));
        CHECK.due("setPort f", 'a', () -> x.setPort(0, 0, 'f'));
        CHECK.due("setPort the same", 'f', () -> x.setPort(0, 0, 'f'));
        CHECK.due("setPort taken", Check.STATE, () -> x.setPort(0, 1, 'f'));
        CHECK.due("taken changes nothing", '-', () -> x.portOf(0, 1));
        CHECK.due("setPort in the other circuit", '-', () -> x.setPort(1, 1, 'f'));
        CHECK.due("setPort ends", 'f', () -> x.setPort(0, 0, '-'));
        CHECK.due("ends again", '-', () -> x.setPort(0, 0, '-'));
        CHECK.due("no port beside no port", '-', () -> x.setPort(0, 1, '-'));
        CHECK.due("setPort freed", '-', () -> x.setPort(0, 1, 'f'));
        CHECK.due("circuit", Check.ARGUMENT, () -> x.setPort(2, 9, 'g'));
        CHECK.due("letter g", Check.ARGUMENT, () -> x.setPort(0, 9, 'g'));
        CHECK.due("letter A", Check.ARGUMENT, () -> x.setPort(0, 0, 'A'));
        CHECK.due("letter `", Check.ARGUMENT, () -> x.setPort(0, 0, '`'));
        CHECK.due("net before letter taken", Check.ELEMENT, () -> x.setPort(0, 3, 'f'));
        CHECK.due("net -1", Check.ELEMENT, () -> x.setPort(0, -1, 'b'));
    }

    private static void promise4AddPart() {
        Netcompare x = Draw.one(3, "");
        CHECK.due("r", 0, () -> x.addPart(0, 'r', 1, 0, 1, -1));
        CHECK.due("c", 1, () -> x.addPart(0, 'c', 999, 1, 1, -1));
        CHECK.due("d", 2, () -> x.addPart(0, 'd', 50, 2, 0, -1));
        CHECK.due("t", 3, () -> x.addPart(0, 't', 50, 2, 0, 1));
        CHECK.due("labels", "r1:0:1 c999:1:1 d50:2:0 t50:2:0:1------", () -> Draw.labels(x, 0));
        CHECK.due("circuit", Check.ARGUMENT, () -> x.addPart(2, 'r', 1, 0, 1, -1));
        CHECK.due("kind", Check.ARGUMENT, () -> x.addPart(0, 'R', 1, 9, 1, -1));
        CHECK.due("value 0", Check.ARGUMENT, () -> x.addPart(0, 'r', 0, 9, 1, -1));
        CHECK.due("value 1000", Check.ARGUMENT, () -> x.addPart(0, 'r', 1000, 9, 1, -1));
        CHECK.due("third net of r", Check.ARGUMENT, () -> x.addPart(0, 'r', 1, 9, 1, 2));
        CHECK.due("third net -2 of d", Check.ARGUMENT, () -> x.addPart(0, 'd', 1, 0, 1, -2));
        CHECK.due("first net", Check.ELEMENT, () -> x.addPart(0, 'r', 1, 3, 1, -1));
        CHECK.due("second net", Check.ELEMENT, () -> x.addPart(0, 'r', 1, 0, -1, -1));
        CHECK.due("third net", Check.ELEMENT, () -> x.addPart(0, 't', 1, 0, 1, -1));
        CHECK.due("third net 3", Check.ELEMENT, () -> x.addPart(0, 't', 1, 0, 1, 3));
        CHECK.due("nothing added", 4, () -> x.parts(0));
    }

    private static void promise4AllPartsAdded() {
        Netcompare x = Draw.one(2, "");
        for (int part = 0; part < 10; part++) {
            Draw.part(x, 0, "r5:0:1");
        }
        x.removePart(0, 9);
        CHECK.due("the eleventh behind a removal", Check.STATE, () -> Draw.part(x, 0, "r5:0:1"));
        CHECK.due("net before too many", Check.ELEMENT, () -> Draw.part(x, 0, "r5:0:2"));
        CHECK.due("value before too many", Check.ARGUMENT, () -> Draw.part(x, 0, "r0:0:1"));
    }

    private static void promise5RemovePart() {
        Netcompare x = Draw.one(2, "r1:0:1 c2:0:1 d3:0:1");
        CHECK.due("removePart", 2, () -> x.removePart(0, 1));
        CHECK.due("removed", Check.ELEMENT, () -> x.removePart(0, 1));
        CHECK.due("part 3", Check.ELEMENT, () -> x.removePart(0, 3));
        CHECK.due("part -1", Check.ELEMENT, () -> x.removePart(0, -1));
        CHECK.due("circuit", Check.ARGUMENT, () -> x.removePart(2, 9));
        CHECK.due("others stay", "r1:0:1- d3:0:1-------", () -> Draw.labels(x, 0));
        CHECK.due("the number is not given again", 3, () -> Draw.part(x, 0, "r4:0:1"));
        CHECK.due("pins go", 3, () -> x.pinsOn(0, 0));
    }

    private static void promise6SetValue() {
        Netcompare x = Draw.one(2, "r1:0:1 c2:0:1");
        x.removePart(0, 1);
        CHECK.due("setValue", 1, () -> x.setValue(0, 0, 999));
        CHECK.due("setValue again", 999, () -> x.setValue(0, 0, 1));
        CHECK.due("circuit", Check.ARGUMENT, () -> x.setValue(-1, 0, 1));
        CHECK.due("value before part", Check.ARGUMENT, () -> x.setValue(0, 9, 0));
        CHECK.due("value 1000", Check.ARGUMENT, () -> x.setValue(0, 0, 1000));
        CHECK.due("removed", Check.ELEMENT, () -> x.setValue(0, 1, 5));
        CHECK.due("missing", Check.ELEMENT, () -> x.setValue(0, 2, 5));
        CHECK.due("value", 1, () -> x.valueOf(0, 0));
    }

    private static void promise7Rewire() {
        Netcompare x = Draw.one(3, "r1:0:1 t2:0:1:2 d3:0:1");
        x.removePart(0, 2);
        CHECK.due("rewire", 1, () -> x.rewire(0, 0, 1, 2));
        CHECK.due("rewire the third pin", 2, () -> x.rewire(0, 1, 2, 0));
        CHECK.due("labels", "r1:0:2 t2:0:1:0--------", () -> Draw.labels(x, 0));
        CHECK.due("circuit", Check.ARGUMENT, () -> x.rewire(2, 9, 9, 9));
        CHECK.due("removed", Check.ELEMENT, () -> x.rewire(0, 2, 9, 9));
        CHECK.due("missing", Check.ELEMENT, () -> x.rewire(0, 3, 9, 9));
        CHECK.due("pin", Check.INDEX, () -> x.rewire(0, 0, 2, 9));
        CHECK.due("pin -1", Check.INDEX, () -> x.rewire(0, 0, -1, 0));
        CHECK.due("pin 3", Check.INDEX, () -> x.rewire(0, 1, 3, 0));
        CHECK.due("net", Check.UNSUPPORTED, () -> x.rewire(0, 0, 0, 3));
        CHECK.due("net -1", Check.UNSUPPORTED, () -> x.rewire(0, 0, 0, -1));
    }

    private static void promise8SwapPins() {
        Netcompare x = Draw.one(3, "r1:0:1 c2:1:2 d3:0:1 t4:0:1:2 r5:0:1");
        x.removePart(0, 4);
        CHECK.due("r", 1, () -> x.swapPins(0, 0));
        CHECK.due("c", 2, () -> x.swapPins(0, 1));
        CHECK.due("t", 2, () -> x.swapPins(0, 3));
        CHECK.due("d", Check.UNSUPPORTED, () -> x.swapPins(0, 2));
        CHECK.due("labels", "r1:1:0 c2:2:1 d3:0:1 t4:0:2:1------", () -> Draw.labels(x, 0));
        CHECK.due("circuit", Check.ARGUMENT, () -> x.swapPins(2, 9));
        CHECK.due("removed", Check.ELEMENT, () -> x.swapPins(0, 4));
        CHECK.due("missing", Check.ELEMENT, () -> x.swapPins(0, 5));
    }

    private static void promise9CopyWished() {
        Netcompare x = Draw.both(3, "r1:0:1 t2:0:1:2 d3:2:0 a=1", "c7:0:0 c8:1:1 c9:2:2 c10:0:0 b=1 c=2");
        x.addNet(1);
        x.removePart(0, 0);
        CHECK.due("copyWished", 2, () -> x.copyWished());
        CHECK.due("labels", Draw.labels(x, 0), () -> Draw.labels(x, 1));
        CHECK.due("nets", 3, () -> x.nets(1));
        CHECK.due("port", 'a', () -> x.portOf(1, 1));
        CHECK.due("no port", '-', () -> x.portOf(1, 2));
        CHECK.due("the next number", 3, () -> Draw.part(x, 1, "r5:0:1"));
        CHECK.due("the wished one stays", 2, () -> x.parts(0));
        x.setPort(1, 1, '-');
        x.rewire(1, 1, 0, 2);
        CHECK.due("the wished port stays", 'a', () -> x.portOf(0, 1));
        CHECK.due("the wished pin stays", 0, () -> x.netOf(0, 1, 0));
        CHECK.due("a new net is no port", '-', () -> x.portOf(1, x.addNet(1)));
    }
}
