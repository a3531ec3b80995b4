import com.sun.management.ThreadMXBean;
import java.lang.management.ManagementFactory;

/** All calls of a run live in one room: the constructor takes a part of it, the calls take nothing. */
final class RoomTest {
    private static final long CONSTRUCTOR = 1_000_000;
    private static final long CALLS = 100_000;

    public static void main(String[] args) {
        work(new BarrierFlow(), 40);
        ThreadMXBean bean = (ThreadMXBean) ManagementFactory.getThreadMXBean();
        long id = Thread.currentThread().getId();
        long start = bean.getThreadAllocatedBytes(id);
        BarrierFlow flow = new BarrierFlow();
        long made = bean.getThreadAllocatedBytes(id);
        Flows.parse(flow, "source a records 200 seed 0 lag 1;source b records 200 seed 7;source c records 200 seed 1;"
                + "source d records 200 seed 2;instances 4;sinks 2;every 3;overtake;");
        long parsed = bean.getThreadAllocatedBytes(id);
        work(flow, 40);
        long worked = bean.getThreadAllocatedBytes(id);
        System.out.println("bytes made: constructor " + (made - start) + ", calls " + (worked - parsed));
        Check.due("12: the constructor's part", true, () -> made - start < CONSTRUCTOR);
        Check.due("12: the calls' part", true, () -> worked - parsed < CALLS);
        Check.end("RoomTest");
    }

    private static void work(BarrierFlow flow, int rounds) {
        for (int n = 0; n < rounds; n++) {
            flow.run(9);
            flow.setRoom(1 + n % 9);
            flow.bestInstances(100);
            flow.quietIn();
            flow.wouldKeep();
            flow.rescale(1 + n % 4);
            flow.saveState();
            flow.run(50);
            flow.printSink(0);
            flow.undo();
            flow.restoreState();
            flow.feed(0x736f7572, 0x63652061, 0x20726563, 0x6f726473, 0x20332073);
            flow.truncate(n % 20);
            if (n % 10 == 9) {
                flow.parse();
            } else {
                flow.find();
            }
        }
    }
}
