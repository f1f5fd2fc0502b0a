/** Promises 13 to 22, 41 and 42: reading circuits. */
public final class ReadTest {
    private static final Check CHECK = new Check("ReadTest");

    public static void main(String[] args) {
        promise13And14Counts();
        promise15To17Parts();
        promise18And19Nets();
        promise20Distance();
        promise21And22Label();
        promise41MeanDistance();
        promise42ValueSum();
        CHECK.finish();
    }

    private static void promise13And14Counts() {
        Netcompare x = Draw.both(3, "r1:0:1 d2:0:1", "c1:2:2");
        x.addNet(1);
        x.removePart(0, 0);
        CHECK.due("nets(0)", 3, () -> x.nets(0));
        CHECK.due("nets(1)", 4, () -> x.nets(1));
        CHECK.due("nets(2)", Check.ARGUMENT, () -> x.nets(2));
        CHECK.due("nets(-1)", Check.ARGUMENT, () -> x.nets(-1));
        CHECK.due("parts(0)", 1, () -> x.parts(0));
        CHECK.due("parts(1)", 1, () -> x.parts(1));
        CHECK.due("parts(2)", Check.ARGUMENT, () -> x.parts(2));
        CHECK.due("parts(-1)", Check.ARGUMENT, () -> x.parts(-1));
    }

    private static void promise15To17Parts() {
        Netcompare x = Draw.one(3, "t999:2:0:1 d7:1:0 c5:0:0");
        x.removePart(0, 2);
        CHECK.due("kindOf t", 't', () -> x.kindOf(0, 0));
        CHECK.due("kindOf d", 'd', () -> x.kindOf(0, 1));
        CHECK.due("kindOf circuit", Check.ARGUMENT, () -> x.kindOf(2, 0));
        CHECK.due("kindOf removed", Check.ELEMENT, () -> x.kindOf(0, 2));
        CHECK.due("kindOf other circuit", Check.ELEMENT, () -> x.kindOf(1, 0));
        CHECK.due("valueOf", 999, () -> x.valueOf(0, 0));
        CHECK.due("valueOf circuit", Check.ARGUMENT, () -> x.valueOf(2, 0));
        CHECK.due("valueOf removed", Check.ELEMENT, () -> x.valueOf(0, 2));
        CHECK.due("valueOf missing", Check.ELEMENT, () -> x.valueOf(0, 3));
        CHECK.due("netOf 0", 2, () -> x.netOf(0, 0, 0));
        CHECK.due("netOf 1", 0, () -> x.netOf(0, 0, 1));
        CHECK.due("netOf 2", 1, () -> x.netOf(0, 0, 2));
        CHECK.due("netOf pin 3 of t", Check.INDEX, () -> x.netOf(0, 0, 3));
        CHECK.due("netOf pin 2 of d", Check.INDEX, () -> x.netOf(0, 1, 2));
        CHECK.due("netOf pin -1", Check.INDEX, () -> x.netOf(0, 1, -1));
        CHECK.due("netOf removed", Check.ELEMENT, () -> x.netOf(0, 2, 9));
        CHECK.due("netOf circuit", Check.ARGUMENT, () -> x.netOf(2, 9, 9));
    }

    private static void promise18And19Nets() {
        Netcompare x = Draw.one(4, "t1:0:0:0 r2:0:1 d3:1:2 a=2");
        x.removePart(0, 2);
        CHECK.due("pinsOn 0", 4, () -> x.pinsOn(0, 0));
        CHECK.due("pinsOn 1", 1, () -> x.pinsOn(0, 1));
        CHECK.due("pinsOn 2", 0, () -> x.pinsOn(0, 2));
        CHECK.due("all pins on one net", 30, () -> Draw.one(1, "t1:0:0:0 ".repeat(10)).pinsOn(0, 0));
        CHECK.due("pinsOn missing", Check.ELEMENT, () -> x.pinsOn(0, 4));
        CHECK.due("pinsOn -1", Check.ELEMENT, () -> x.pinsOn(0, -1));
        CHECK.due("pinsOn circuit", Check.ARGUMENT, () -> x.pinsOn(2, 9));
        CHECK.due("portOf", 'a', () -> x.portOf(0, 2));
        CHECK.due("portOf none", '-', () -> x.portOf(0, 0));
        CHECK.due("portOf missing", Check.ELEMENT, () -> x.portOf(0, 4));
        CHECK.due("portOf circuit", Check.ARGUMENT, () -> x.portOf(-1, 9));
    }

    private static void promise20Distance() {
        Netcompare x = Draw.one(10, "r1:8:9 r1:7:8 r1:6:7 r1:5:6 r1:4:5 r1:3:4 r1:2:3 r1:1:2 r1:0:1 a=0");
        CHECK.due("a port", 0, () -> x.distance(0, 0));
        CHECK.due("the far end", 9, () -> x.distance(0, 9));
        x.setPort(0, 8, 'b');
        CHECK.due("the nearer port", 1, () -> x.distance(0, 9));
        CHECK.due("the middle", 4, () -> x.distance(0, 4));
        x.removePart(0, 5);
        CHECK.due("behind a gap", 4, () -> x.distance(0, 4));
        x.setPort(0, 8, '-');
        CHECK.due("cut off", 99, () -> x.distance(0, 4));
        Netcompare t = Draw.one(4, "t1:0:1:2 d1:2:3 a=3");
        CHECK.due("over a transistor", 2, () -> t.distance(0, 0));
        CHECK.due("net", Check.ELEMENT, () -> t.distance(0, 4));
        CHECK.due("net -1", Check.ELEMENT, () -> t.distance(0, -1));
        CHECK.due("circuit", Check.ARGUMENT, () -> t.distance(2, 9));
    }

    private static void promise21And22Label() {
        Netcompare x = Draw.one(10, "r47:0:2 d5:9:8 t100:1:2:3 c999:0:0 r10:0:1");
        x.removePart(0, 4);
        CHECK.due("all labels", "r47:0:2 d5:9:8 t100:1:2:3 c999:0:0------", () -> Draw.labels(x, 0));
        CHECK.due("values of one, two and three digits", "r9:0:0 r10:0:0 r99:0:0 r100:0:0------",
                () -> Draw.labels(Draw.one(1, "r9:0:0 r10:0:0 r99:0:0 r100:0:0"), 0));
        CHECK.due("length 7", 7, () -> x.labelLength(0, 0));
        CHECK.due("length 6", 6, () -> x.labelLength(0, 1));
        CHECK.due("length 10", 10, () -> x.labelLength(0, 2));
        CHECK.due("length removed", Check.ELEMENT, () -> x.labelLength(0, 4));
        CHECK.due("length circuit", Check.ARGUMENT, () -> x.labelLength(2, 9));
        CHECK.due("index 7", Check.INDEX, () -> x.labelAt(0, 0, 7));
        CHECK.due("index 6 behind a longer one", Check.INDEX, () -> x.labelAt(0, 1, 6));
        CHECK.due("index -1", Check.INDEX, () -> x.labelAt(0, 0, -1));
        CHECK.due("removed", Check.ELEMENT, () -> x.labelAt(0, 4, 99));
        CHECK.due("circuit", Check.ARGUMENT, () -> x.labelAt(2, 9, 99));
    }

    private static void promise41MeanDistance() {
        Netcompare x = Draw.both(5, "r1:0:1 r1:1:2 r1:1:3 a=0", "a=0 r1:0:1 r1:0:2 r1:2:3 r1:3:4");
        CHECK.due("mean of 0 1 2 2", 1.25, () -> x.meanDistance(0));
        CHECK.due("mean of 0 1 1 2 3", 7.0 / 5.0, () -> x.meanDistance(1));
        x.setPort(0, 0, '-');
        CHECK.due("no port", Check.ARITHMETIC, () -> x.meanDistance(0));
        CHECK.due("circuit", Check.ARGUMENT, () -> x.meanDistance(2));
        CHECK.due("no nets", Check.ARITHMETIC, () -> new Netcompare().meanDistance(1));
    }

    private static void promise42ValueSum() {
        Netcompare x = Draw.both(2, "r999:0:1 d999:0:1 c2:1:1 r3:0:0", "c7:0:1");
        x.removePart(0, 2);
        CHECK.due("sum", 2001L, () -> x.valueSum(0));
        CHECK.due("sum of the drawn one", 7L, () -> x.valueSum(1));
        CHECK.due("circuit", Check.ARGUMENT, () -> x.valueSum(2));
        CHECK.due("nothing", 0L, () -> new Netcompare().valueSum(0));
        CHECK.due("ten of the most", 9990L, () -> Draw.one(1, "r999:0:0 ".repeat(10)).valueSum(0));
    }
}
