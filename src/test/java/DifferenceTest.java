/** Promises 35 to 40: differences. */
public final class DifferenceTest {
    private static final Check CHECK = new Check("DifferenceTest");

    public static void main(String[] args) {
        promise35To39Order();
        sizesAndMembers();
        asManyAsCanBe();
        equalCircuitsDoNotDiffer();
        wrongIndexes();
        promise40EqualShare();
        CHECK.finish();
    }

    /** All differences, each as kind, member, distance and sizes. */
    private static String all(Netcompare x) {
        StringBuilder text = new StringBuilder();
        for (int index = 0; index < x.differences(); index++) {
            text.append(index == 0 ? "" : " ").append(x.differenceKind(index)).append(x.differenceMember(index))
                    .append('@').append(x.differenceDistance(index)).append(':')
                    .append(x.differenceSize(index, 0)).append('/').append(x.differenceSize(index, 1));
        }
        return text.toString();
    }

    private static void promise35To39Order() {
        CHECK.due("a value far from the port",
                "n0@0:1/0 n100@0:0/1 p0@0:1/0 p100@0:0/1 n1@1:1/0 n101@1:0/1 "
                        + "p1@1:1/0 p101@1:0/1 n2@2:1/0 n102@2:0/1",
                () -> all(Draw.both(3, "r1:0:1 r2:1:2 a=0", "r1:0:1 r3:1:2 a=0")));
        CHECK.due("no port at all", "n0@99:2/0 n100@99:0/2 p0@99:1/0 p100@99:0/1",
                () -> all(Draw.both(2, "r1:0:1", "c1:0:1")));
        CHECK.due("nets ahead of parts, wished ahead of drawn", "n0@0:1/0 n103@0:0/1 p2@0:1/0 p100@0:0/1",
                () -> all(Draw.both(4, "r1:1:2 r9:1:1 d1:0:0 a=0", "c1:3:3 r1:1:2 r9:1:1 a=3")));
    }

    private static void sizesAndMembers() {
        CHECK.due("nets without pins", "n1@99:3/2", () -> {
            Netcompare x = Draw.both(3, "a=0", "a=2");
            x.addNet(0);
            return all(x);
        });
        CHECK.due("loops", "n0@99:2/3 n2@99:1/0 p0@99:2/3",
                () -> all(Draw.both(3, "r1:0:0 r1:1:1", "r1:0:0 r1:1:1 r1:2:2")));
        CHECK.due("a removed part is no member", "n0@99:1/0 p1@99:1/0", () -> {
            Netcompare x = Draw.one(1, "r1:0:0 r1:0:0");
            x.removePart(0, 0);
            return all(x);
        });
    }

    private static void asManyAsCanBe() {
        Netcompare x = Draw.both(10, loops("r"), loops("c"));
        CHECK.due("all nets and parts", 40, () -> x.differences());
        CHECK.due("last kind", 'p', () -> x.differenceKind(39));
        CHECK.due("last member", 109, () -> x.differenceMember(39));
        CHECK.due("behind the last", Check.INDEX, () -> x.differenceMember(40));
    }

    /** Ten nets, each with its own part. */
    private static String loops(String kind) {
        StringBuilder text = new StringBuilder();
        for (int net = 0; net < 10; net++) {
            text.append(' ').append(kind).append(1 + net).append(":" + net).append(":" + net);
        }
        return text.toString();
    }

    private static void equalCircuitsDoNotDiffer() {
        CHECK.due("nothing", 0, () -> new Netcompare().differences());
        CHECK.due("the same", 0, () -> Draw.both(3, "t1:0:1:2 a=1", "t1:2:0:1 a=0").differences());
        CHECK.due("rings that are no match", 0, () -> Draw.both(4, "r1:0:1 r1:1:2 r1:2:3 r1:3:0",
                "r1:0:1 r1:0:1 r1:2:3 r1:2:3").differences());
    }

    private static void wrongIndexes() {
        Netcompare x = Draw.both(1, "a=0", "b=0");
        CHECK.due("two", 2, () -> x.differences());
        CHECK.due("last", 100, () -> x.differenceMember(1));
        CHECK.due("differenceKind first of all", 'n', () -> Draw.one(1, "").differenceKind(0));
        for (int index : new int[] {-1, 2, Integer.MAX_VALUE, Integer.MIN_VALUE}) {
            CHECK.due("differenceKind", Check.INDEX, () -> x.differenceKind(index));
            CHECK.due("differenceMember", Check.INDEX, () -> x.differenceMember(index));
            CHECK.due("differenceDistance", Check.INDEX, () -> x.differenceDistance(index));
            CHECK.due("differenceSize", Check.INDEX, () -> x.differenceSize(index, 0));
            CHECK.due("index ahead of circuit", Check.INDEX, () -> x.differenceSize(index, 2));
        }
        CHECK.due("circuit 2", Check.ARGUMENT, () -> x.differenceSize(0, 2));
        CHECK.due("circuit -1", Check.ARGUMENT, () -> x.differenceSize(1, -1));
        CHECK.due("no difference", Check.INDEX, () -> new Netcompare().differenceKind(0));
    }

    private static void promise40EqualShare() {
        CHECK.due("no classes", Check.ARITHMETIC, () -> new Netcompare().equalShare());
        CHECK.due("all", 1.0f, () -> Draw.both(2, "r1:0:1", "r1:0:1").equalShare());
        CHECK.due("none", 0.0f, () -> Draw.both(2, "r1:0:1", "c1:0:1").equalShare());
        CHECK.due("a third", 1.0f / 3.0f, () -> Draw.both(2, "a=0", "b=0").equalShare());
        CHECK.due("nets alone", 0.0f, () -> Draw.one(1, "").equalShare());
    }
}
