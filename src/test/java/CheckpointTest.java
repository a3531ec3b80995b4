/** Promises 18 to 21: checkpoints that align and that overtake, in progress and completed. */
final class CheckpointTest {
    public static void main(String[] args) {
        wrongNumbers();
        none();
        aligning();
        overtaking();
        keptOfManyChannels();
        byThemselves();
        numbersBehindFailures();
        lagOfLater();
        keptOfLaterOnes();
        instancesNoteTheirOwn();
        Check.end("CheckpointTest");
    }

    private static void progress(String what, BarrierFlow flow, int... due) {
        for (int w = 0; w < due.length; w++) {
            int number = w;
            Check.due("18: " + what + ", progress " + w, due[w], () -> flow.progress(number));
        }
    }

    private static void completed(String what, BarrierFlow flow, int... due) {
        for (int w = 0; w < due.length; w++) {
            int number = w;
            Check.due("19: " + what + ", completed " + w, due[w], () -> flow.completed(number));
        }
    }

    private static void wrongNumbers() {
        BarrierFlow flow = Flows.of("source a records 9 seed 0;source b records 9 seed 0;");
        for (int round = 0; round < 3; round++) {
            Check.illegal("18: what -1", () -> flow.progress(-1));
            Check.illegal("18: what 7", () -> flow.progress(7));
            Check.illegal("19: what -1", () -> flow.completed(-1));
            Check.illegal("19: what 6", () -> flow.completed(6));
            Check.outside("20: source -1", () -> flow.notedPosition(-1));
            Check.outside("20: source 2", () -> flow.notedPosition(2));
            Check.illegal("21: key -1", () -> flow.notedSum(-1));
            Check.illegal("21: key 16", () -> flow.notedSum(16));
            flow.setEvery(2, true);
            flow.run(3);
        }
    }

    private static void none() {
        BarrierFlow flow = Flows.of("source a records 9 seed 0;");
        flow.run(5);
        progress("none in progress", flow, -1, -1, -1, -1, -1, -1, -1);
        completed("none is there", flow, -1, -1, -1, -1, -1, -1);
        Check.due("20: no checkpoint", 0, () -> flow.notedPosition(0));
        Check.due("21: no checkpoint", 0, () -> flow.notedSum(0));
    }

    private static void aligning() {
        BarrierFlow flow = Flows.of("source a records 4 seed 0;instances 2;room 2;");
        flow.run(4);
        flow.begin(false);
        progress("begun", flow, 1, 4, 0, 0, 0, 0, 0);
        flow.run(1);
        progress("a tick later", flow, 1, 4, 0, 1, 2, 1, 0);
        completed("not yet", flow, -1);
        flow.run(1);
        progress("ended", flow, -1, -1);
        completed("completed in tick 5", flow, 1, 4, 5, 0, 0, 0);
        Check.due("20: position", 4, () -> flow.notedPosition(0));
        Check.due("21: key 0", 1, () -> flow.notedSum(0));
        Check.due("21: key 4", 23, () -> flow.notedSum(4));
        Check.due("21: key 8", 22, () -> flow.notedSum(8));
        Check.due("21: key 12", 0, () -> flow.notedSum(12));
        flow.run(1);
        completed("shown a tick later", flow, 1, 4, 5, 0, 0, 1);
    }

    // the second example of section 4: lag 2 of source 1, whose record is taken before its barrier comes
    private static void overtaking() {
        BarrierFlow flow = Flows.of("source a records 4 seed 0;source b records 4 seed 1 lag 1;room 2;every 9;overtake;");
        flow.run(1);
        progress("source 0 put its barrier, which arrived", flow, 1, 0, 1, 1, 1, 1, 0);
        Check.due("16: the barrier does not stay", 0, () -> flow.inChannel(0, 0, true));
        Check.due("12: key 0 is behind the cut", 1, () -> flow.sum(0));
        Check.due("16: a record of source 1 stands before its barrier", 1, () -> flow.inChannel(1, 0, false));
        flow.run(1);
        // source 1: its barrier overtook record 0, which is kept; record 1 came behind the barrier
        completed("completed in tick 1", flow, 1, 0, 1, 1, 1, 0);
        Check.due("20: of source 0 before its first record", 0, () -> flow.notedPosition(0));
        Check.due("20: of source 1 behind its first record", 1, () -> flow.notedPosition(1));
        Check.due("21: key 0 was noted before", 0, () -> flow.notedSum(0));
        Check.due("21: key 5 was noted before", 0, () -> flow.notedSum(5));
        Check.due("14: results came behind the cut", 2, () -> flow.sink(0, 0));
        Check.due("14: none was closed", 0, () -> flow.sink(0, 1));
        flow.fail();
        Check.due("16: the kept record is there again", 1, () -> flow.inChannel(1, 0, false));
        flow.run(1);
        Check.due("12: the source began anew", 1, () -> flow.sum(0));
        flow.run(1);
        Check.due("12: the kept record is taken", 2, () -> flow.sum(5));
    }

    private static void keptOfManyChannels() {
        // everything is full when the checkpoint begins: records and results are kept on all ways
        BarrierFlow flow = Flows.of("source a records 50 seed 0;source b records 50 seed 1;source c records 50 seed 2 lag 4;"
                + "instances 3;sinks 2;room 2;");
        flow.run(12);
        int here = 0;
        for (int i = 0; i < 3; i++) {
            here += flow.inChannel(0, i, false) + flow.inChannel(1, i, false) + flow.instance(i, 4);
        }
        int kept = here;
        int third = flow.instance(0, 3) + flow.instance(1, 3) + flow.instance(2, 3) + flow.instance(0, 4)
                + flow.instance(1, 4) + flow.instance(2, 4) - kept;
        Check.due("18: channels are in use", true, () -> kept > 6 && third > 0);
        flow.begin(true);
        flow.run(1);
        // the barriers of sources 0 and 1 arrived in the three instances, and those of these in both sinks
        progress("all but source 2", flow, 1, 12, 1, 2, 6, 6);
        Check.due("18: what stood before barriers, and what was taken of source 2", true,
                () -> flow.progress(6) >= kept && flow.progress(6) <= kept + 3);
        flow.run(3);
        progress("still without source 2", flow, 1, 12, 1, 2, 6, 6);
        int taken = flow.progress(6);
        int stands = flow.inChannel(2, 0, false) + flow.inChannel(2, 1, false) + flow.inChannel(2, 2, false);
        flow.run(1);
        completed("with source 2", flow, 1, 12, 16, 1, taken + stands, 0);
        int before = flow.source(0, 3) + flow.source(1, 3) + flow.source(2, 3);
        int lost = flow.fail();
        Check.due("30: what comes again", before - lost,
                () -> flow.notedPosition(0) + flow.notedPosition(1) + flow.notedPosition(2));
        int there = 0;
        for (int i = 0; i < 3; i++) {
            there += flow.instance(i, 3) + flow.instance(i, 4);
        }
        int again = there;
        Check.due("19: all that was kept is there again", again, () -> flow.completed(4));
        onceEach(flow, 50);
    }

    /** Whatever happened before, at last every record has been handled and shown just once. */
    private static void onceEach(BarrierFlow flow, int records) {
        flow.setEvery(3, false);
        flow.run(500);
        for (int k = 0; k < 16; k++) {
            int key = k;
            int all = k % 4 < flow.count(0) ? Flows.recordsOf(key, flow.source(k % 4, 1), records) : 0;
            Check.due("22: shown of key " + k, all, () -> flow.shownOf(key));
            if (all > 0) {
                Check.due("12: sum of key " + k, flow.expected(key, all), () -> flow.sum(key));
            }
        }
    }

    // a checkpoint keeps nothing of the ones before it
    private static void keptOfLaterOnes() {
        BarrierFlow flow = Flows.of("source a records 90 seed 0;source b records 90 seed 1;source c records 90 seed 2;"
                + "instances 3;sinks 2;room 4;");
        for (int n = 1; n <= 5; n++) {
            flow.run(7);
            flow.begin(true);
            flow.run(1);
            int kept = flow.completed(4);
            Check.due("19: something is kept", true, () -> kept > 0);
            flow.fail();
            int there = 0;
            for (int i = 0; i < 3; i++) {
                there += flow.instance(i, 3) + flow.instance(i, 4);
            }
            int again = there;
            Check.due("30: what checkpoint " + n + " kept, no more", kept, () -> again);
        }
        onceEach(flow, 90);
    }

    // an aligning checkpoint comes to the instances at different ticks: each notes the sums of its own keys
    private static void instancesNoteTheirOwn() {
        BarrierFlow flow = Flows.of("source a records 60 seed 0;source b records 60 seed 1;source c records 60 seed 2;"
                + "instances 3;sinks 2;room 4;");
        flow.run(9);
        flow.begin(false);
        int[] sums = new int[16];
        for (int t = 0; t < 60 && flow.progress(0) == 1; t++) {
            flow.run(1);
        }
        for (int key = 0; key < 16; key++) {
            int many = 0;
            for (int i = 0; key % 4 < 3 && i < flow.notedPosition(key % 4); i++) {
                many += flow.record(key % 4, i, 0) == key ? 1 : 0;
            }
            sums[key] = many == 0 ? 0 : flow.expected(key, many);
        }
        int later = 0;
        for (int k = 0; k < 16; k++) {
            int key = k;
            Check.due("21: all that was sent before the barriers, key " + k, sums[k], () -> flow.notedSum(key));
            later += flow.sum(k) > sums[k] ? 1 : 0;
        }
        int changed = later;
        Check.due("12: some sums have changed since", true, () -> changed > 2);
        flow.fail();
        onceEach(flow, 60);
    }

    private static void byThemselves() {
        BarrierFlow flow = Flows.of("source a records 50 seed 0;every 3;");
        flow.run(1);
        // time 0 is a multiple of every; one source, one instance, one sink: completed in the same tick
        completed("the first one", flow, 1, 0, 0, 0, 0, 0);
        flow.run(4);
        // the barrier of time 3 stood behind a record, that was taken first
        completed("the second one", flow, 2, 3, 4, 0, 0, 0);
        flow.setEvery(4, true);
        flow.run(3);
        Check.due("28: not before time 8", 2, () -> flow.count(6));
        flow.run(1);
        Check.due("18: the next one", 3, () -> flow.completed(0));
        Check.due("19: it overtook", 1, () -> flow.completed(3));
        flow.setEvery(0, true);
        int many = flow.count(6);
        flow.run(50);
        Check.due("28: every 0, none begins", many, () -> flow.count(6));
        whileOneIsInProgress();
    }

    private static void whileOneIsInProgress() {
        BarrierFlow flow = Flows.of("source a records 50 seed 0 lag 5;every 2;");
        flow.run(5);
        progress("begun at time 0, not at 2 and 4", flow, 1, 0, 0, 0, 0, 0, 0);
        flow.run(1);
        Check.due("28: put and arrived in tick 5", 5, () -> flow.progress(2) + flow.completed(2) + 1);
        flow.run(1);
        progress("the next one begins at time 6", flow, 2, 6, 0, 0, 0, 0, 0);
    }

    private static void numbersBehindFailures() {
        BarrierFlow flow = Flows.of("source a records 50 seed 0 lag 5;");
        Check.due("29: the first number", 1, () -> flow.begin(true));
        flow.fail();
        progress("ended by a failure", flow, -1);
        Check.due("29: the second number", 2, () -> flow.begin(false));
        progress("the second", flow, 2, 0, 0, 0, 0, 0, 0);
        flow.rescale(2);
        progress("ended by a rescaling", flow, -1);
        flow.begin(true);
        flow.run(6);
        completed("the third one", flow, 3, 0, 5, 1, 0, 0);
        flow.begin(true);
        completed("another one in progress changes nothing", flow, 3, 0, 5, 1, 0, 0);
        flow.fail();
        completed("a failure shows it", flow, 3, 0, 5, 1, 0, 1);
    }

    private static void lagOfLater() {
        BarrierFlow flow = Flows.of("source a records 50 seed 0;source b records 50 seed 0 lag 9;");
        flow.begin(true);
        flow.run(3);
        progress("source 1 waits", flow, 1, 0, 1, 1);
        flow.setLag(1, 3);
        flow.run(1);
        completed("its lag is over", flow, 1, 0, 3, 1);
    }
}
