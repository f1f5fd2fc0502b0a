/** Promises 10 to 12: joining parts. */
public final class JoinTest {
    private static final Check CHECK = new Check("JoinTest");

    public static void main(String[] args) {
        promise10Series();
        promise10Parallel();
        promise10Neither();
        promise10Wrong();
        promise11Series();
        promise11Values();
        promise11Wrong();
        promise12Order();
        promise12Ends();
        CHECK.finish();
    }

    private static char way(int nets, String members) {
        return Draw.one(nets, members).canJoin(0, 0, 1);
    }

    private static void promise10Series() {
        CHECK.due("chain", 's', () -> way(3, "r1:0:1 r2:1:2"));
        CHECK.due("crossed chain", 's', () -> way(3, "r1:1:0 r2:2:1"));
        CHECK.due("capacitors", 's', () -> way(3, "c1:0:1 c2:1:2"));
        CHECK.due("ports at the ends", 's', () -> way(3, "r1:0:1 r2:1:2 a=0 b=2"));
        CHECK.due("more pins at the ends", 's', () -> way(3, "r1:0:1 r2:1:2 d3:0:2 t4:0:0:2"));
        CHECK.due("other way round", 's', () -> Draw.one(3, "r1:0:1 r2:1:2").canJoin(0, 1, 0));
    }

    private static void promise10Parallel() {
        CHECK.due("same nets", 'p', () -> way(2, "r1:0:1 r2:0:1"));
        CHECK.due("crossed nets", 'p', () -> way(2, "c1:0:1 c2:1:0"));
        CHECK.due("ports do not matter", 'p', () -> way(2, "r1:0:1 r2:0:1 a=0 b=1"));
        CHECK.due("other pins do not matter", 'p', () -> way(2, "r1:0:1 r2:0:1 d1:0:1"));
    }

    private static void promise10Neither() {
        CHECK.due("the same part", '-', () -> Draw.one(2, "r1:0:1").canJoin(0, 0, 0));
        CHECK.due("kinds", '-', () -> way(2, "r1:0:1 c2:0:1"));
        CHECK.due("diodes", '-', () -> way(2, "d1:0:1 d1:0:1"));
        CHECK.due("transistors", '-', () -> way(2, "t1:0:1:1 t1:0:1:1"));
        CHECK.due("port between", '-', () -> way(3, "r1:0:1 r2:1:2 a=1"));
        CHECK.due("a third pin between", '-', () -> way(3, "r1:0:1 r2:1:2 d3:1:1"));
        CHECK.due("the same single net", '-', () -> way(1, "r1:0:0 r2:0:0"));
        CHECK.due("a loop at the common net", '-', () -> way(2, "r1:0:1 r2:1:1"));
        CHECK.due("no common net", '-', () -> way(4, "r1:0:1 r2:2:3"));
        CHECK.due("two pins of one part alone", '-', () -> way(3, "r1:1:1 r2:0:2"));
    }

    private static void promise10Wrong() {
        Netcompare x = Draw.one(3, "r1:0:1 r2:1:2 r3:0:2");
        x.removePart(0, 2);
        CHECK.due("circuit", Check.ARGUMENT, () -> x.canJoin(2, 9, 9));
        CHECK.due("one", Check.ELEMENT, () -> x.canJoin(0, 9, 0));
        CHECK.due("other", Check.ELEMENT, () -> x.canJoin(0, 0, -1));
        CHECK.due("one removed", Check.ELEMENT, () -> x.canJoin(0, 2, 0));
        CHECK.due("other removed", Check.ELEMENT, () -> x.canJoin(0, 0, 2));
        CHECK.due("a removed part has no pins", 's', () -> x.canJoin(0, 0, 1));
    }

    private static String joined(int nets, String members, int one, int other) {
        Netcompare x = Draw.one(nets, members);
        return x.join(0, one, other) + " " + Draw.labels(x, 0);
    }

    private static void promise11Series() {
        CHECK.due("own net first", "30 r30:0:2---------", () -> joined(3, "r10:0:1 r20:1:2", 0, 1));
        CHECK.due("own net from pin 1", "30 r30:0:2---------", () -> joined(3, "r10:1:0 r20:2:1", 0, 1));
        CHECK.due("own net is the higher one", "30 r30:2:0---------", () -> joined(3, "r10:2:1 r20:0:1", 1, 0));
        CHECK.due("parallel keeps its nets", "6 r6:1:0---------", () -> joined(2, "r10:1:0 r20:0:1", 1, 0));
    }

    private static void promise11Values() {
        CHECK.due("r in series, at most 999", 999, () -> Draw.one(3, "r500:0:1 r500:1:2").join(0, 0, 1));
        CHECK.due("r in series 999", 999, () -> Draw.one(3, "r500:0:1 r499:1:2").join(0, 0, 1));
        CHECK.due("r in parallel, at least 1", 1, () -> Draw.one(2, "r1:0:1 r1:0:1").join(0, 0, 1));
        CHECK.due("r in parallel, down", 499, () -> Draw.one(2, "r999:0:1 r999:0:1").join(0, 0, 1));
        CHECK.due("c in parallel", 30, () -> Draw.one(2, "c10:0:1 c20:0:1").join(0, 0, 1));
        CHECK.due("c in parallel, at most 999", 999, () -> Draw.one(2, "c999:0:1 c999:0:1").join(0, 0, 1));
        CHECK.due("c in series, down", 6, () -> Draw.one(3, "c10:0:1 c20:1:2").join(0, 0, 1));
        CHECK.due("c in series, at least 1", 1, () -> Draw.one(3, "c1:0:1 c1:1:2").join(0, 0, 1));
    }

    private static void promise11Wrong() {
        Netcompare x = Draw.one(4, "r1:0:1 r2:1:2 r3:2:3 d4:2:2");
        x.removePart(0, 2);
        CHECK.due("circuit", Check.ARGUMENT, () -> x.join(-1, 0, 1));
        CHECK.due("removed", Check.ELEMENT, () -> x.join(0, 0, 2));
        CHECK.due("missing", Check.ELEMENT, () -> x.join(0, 4, 0));
        CHECK.due("itself", Check.UNSUPPORTED, () -> x.join(0, 0, 0));
        CHECK.due("neither", Check.UNSUPPORTED, () -> x.join(0, 0, 3));
        CHECK.due("nothing has changed", "r1:0:1 r2:1:2- d4:2:2------", () -> Draw.labels(x, 0));
    }

    private static String allJoined(int nets, String members) {
        Netcompare x = Draw.one(nets, members);
        return x.joinAll(0) + " " + Draw.labels(x, 0) + " " + x.nets(0);
    }

    private static void promise12Order() {
        // Rounding shows the order: (7||5)=2, 2||3=1; (5||3)=1 would leave 7||1=1.
        CHECK.due("lowest numbers first", "2 r1:0:1--------- 2", () -> allJoined(2, "r7:0:1 r5:0:1 r3:0:1"));
        CHECK.due("0 with 2 ahead of 1 with 3", "2 r3:0:3 c30:0:3-------- 4",
                () -> allJoined(4, "r1:0:1 c10:0:3 r2:1:3 c20:3:0"));
        // 9||9=4, 4||9=2, 2||9=1, while pairs of pairs would leave 4||4=2.
        CHECK.due("with the first part again", "3 r1:0:1--------- 2",
                () -> allJoined(2, "r9:0:1 r9:0:1 r9:0:1 r9:0:1"));
    }

    private static void promise12Ends() {
        CHECK.due("a ladder", "3 r15:0:3--------- 4", () -> allJoined(4, "r10:0:1 r10:1:2 r10:0:2 r9:2:3"));
        CHECK.due("a net without pins stays", "1 r3:0:2--------- 3", () -> allJoined(3, "r1:0:1 r2:1:2"));
        CHECK.due("a triangle ends in parallel", "2 r1:0:2--------- 3", () -> allJoined(3, "r2:0:1 r2:1:2 r2:2:0"));
        CHECK.due("nothing to join", "0 r1:0:1 d2:0:1 d2:0:1------- 2", () -> allJoined(2, "r1:0:1 d2:0:1 d2:0:1"));
        CHECK.due("no part", "0 ---------- 0", () -> allJoined(0, ""));
        CHECK.due("circuit", Check.ARGUMENT, () -> new Netcompare().joinAll(2));
        Netcompare x = Draw.both(3, "r1:0:1 r2:1:2", "r1:0:1 r2:1:2");
        CHECK.due("the drawn one", 1, () -> x.joinAll(1));
        CHECK.due("the wished one stays", 2, () -> x.parts(0));
    }
}
