import com.sun.management.ThreadMXBean;
import java.lang.management.ManagementFactory;

/** What objects and calls make in memory, and that hard searches end soon. */
public final class RoomTest {
    private static final Check CHECK = new Check("RoomTest");
    private static final ThreadMXBean MEMORY = (ThreadMXBean) ManagementFactory.getThreadMXBean();
    /** Nets in pairs told apart by no colour: loops and a ring of four on one side, two doubled edges on the other. */
    private static final String LOOPS = "r1:0:0 r1:1:1 r1:2:2 r1:3:3 r1:4:4 r1:5:5 ";
    private static final String RING = "r1:6:7 r1:7:8 r1:8:9 r1:9:6";
    private static final String PAIRS = "r1:6:7 r1:7:6 r1:8:9 r1:9:8";
    /** Nets told apart by no colour: all loops on one side, one pair among them on the other. */
    private static final String TEN_LOOPS = LOOPS + "r1:6:6 r1:7:7 r1:8:8 r1:9:9";
    private static final String LOOPS_AND_PAIR = LOOPS + "r1:6:6 r1:7:7 r1:8:9 r1:9:8";
    /** The slowest search found: two pairs and a ring of six on one side, five pairs on the other. */
    private static final String RING_AND_PAIRS =
            "r1:4:6 r1:6:4 r1:8:0 r1:0:7 r1:7:3 r1:3:9 r1:9:1 r1:1:8 r1:5:2 r1:2:5";
    private static final String FIVE_PAIRS =
            "r1:0:1 r1:1:0 r1:2:3 r1:3:2 r1:4:5 r1:5:4 r1:6:7 r1:7:6 r1:8:9 r1:9:8";
    private static int answers;

    public static void main(String[] args) {
        callAll(hard());
        CHECK.due("bytes of 100 objects are at most 25000 each", true, () -> bytesOfObjects() <= 2_500_000);
        CHECK.due("bytes of 100 times all calls that answer", true, () -> bytesOfCalls() <= 10_000);
        CHECK.due("100 hard searches end within 30 seconds", true, () -> secondsOfSearches(hard(), 100) < 30);
        CHECK.due("100 searches among nets that all are alone end within 30 seconds", true,
                () -> secondsOfSearches(Draw.both(10, LOOPS_AND_PAIR, TEN_LOOPS), 100) < 30);
        CHECK.due("100 times the slowest search found ends within 30 seconds", true,
                () -> secondsOfSearches(Draw.both(10, RING_AND_PAIRS, FIVE_PAIRS), 100) < 30);
        CHECK.finish();
    }

    private static Netcompare hard() {
        return Draw.both(10, LOOPS + RING, LOOPS + PAIRS);
    }

    private static long bytesOfObjects() {
        long before = bytes();
        for (int times = 0; times < 100; times++) {
            answers += new Netcompare().nets(0);
        }
        return bytes() - before;
    }

    private static long bytesOfCalls() {
        Netcompare x = hard();
        long before = bytes();
        for (int times = 0; times < 100; times++) {
            callAll(x);
        }
        return bytes() - before;
    }

    /** Calls all but those that add, match or fail. */
    private static void callAll(Netcompare x) {
        answers += x.setPort(0, 0, 'a') + x.setValue(0, 1, 2) + x.setValue(0, 1, 1) + x.setPort(0, 0, '-');
        answers += x.rewire(1, 6, 0, 6) + x.swapPins(1, 6) + x.swapPins(1, 6) + x.canJoin(0, 6, 7);
        answers += x.parts(0) + x.kindOf(0, 0) + x.valueOf(0, 0) + x.netOf(0, 0, 1) + x.pinsOn(0, 0);
        answers += x.portOf(0, 0) + x.distance(0, 0) + x.labelLength(0, 0) + x.labelAt(0, 0, 0) + x.nets(1);
        answers += x.rounds() + x.netClasses() + x.partClasses() + x.netsLike(0, 0, 1) + x.partsLike(0, 0, 1);
        answers += x.areAlike(0, 0) ? 1 : 0;
        answers += x.differences() + (int) x.equalShare() + (int) x.valueSum(0);
        answers += x.isMatched() ? 1 : 0;
    }

    private static double secondsOfSearches(Netcompare x, int searches) {
        long before = System.nanoTime();
        for (int times = 0; times < searches; times++) {
            answers += x.setValue(0, 0, 1);
            answers += x.isMatched() ? 1 : 0;
        }
        return (System.nanoTime() - before) / 1e9;
    }

    private static long bytes() {
        return MEMORY.getCurrentThreadAllocatedBytes();
    }
}
