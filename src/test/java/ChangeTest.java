/** Promises 28 to 35: run, begin, fail, rescale, setRoom, setLag, setEvery, undo. */
final class ChangeTest {
    public static void main(String[] args) {
        run();
        begin();
        fail();
        failShows();
        rescale();
        rescaleSpreadsRecords();
        rescaleSpreadsResults();
        setRoom();
        setLag();
        setEvery();
        undoEach();
        undoOfSix();
        failedChangesAreNone();
        Check.end("ChangeTest");
    }

    private static void run() {
        BarrierFlow flow = Flows.of("source a records 50 seed 0;every 5;overtake;");
        Check.due("28: 1 tick, begun and completed at time 0", 1, () -> flow.run(1));
        Check.due("28: none at times 1 to 4", 0, () -> flow.run(4));
        Check.due("28: at times 5, 10 and 15", 3, () -> flow.run(11));
        Check.due("7: the time", 16, () -> flow.count(5));
        Check.due("28: 500 ticks", 100, () -> flow.run(500));
        Check.due("7: the time then", 516, () -> flow.count(5));
        Check.illegal("28: 0 ticks", () -> flow.run(0));
        Check.illegal("28: -1 ticks", () -> flow.run(-1));
        Check.illegal("28: 501 ticks", () -> flow.run(501));
        Check.due("28: nothing changed", 516, () -> flow.count(5));
        Check.due("28: all sent", 50, () -> flow.source(0, 3));
        Check.due("28: all shown", 50, () -> flow.sink(0, 2));
        BarrierFlow many = Flows.of("source a records 50 seed 0;every 5;overtake;");
        BarrierFlow once = Flows.of("source a records 50 seed 0;every 5;overtake;");
        for (int n = 0; n < 33; n++) {
            many.run(1);
        }
        once.run(33);
        Check.due("28: 33 times a tick is 33 ticks", Flows.look(once), () -> Flows.look(many));
    }

    private static void begin() {
        BarrierFlow flow = Flows.of("source a records 50 seed 0 lag 2;every 4;");
        flow.run(3);
        Check.due("7: one began at time 0", 1, () -> flow.count(6));
        Check.due("29: its number", 2, () -> flow.begin(true));
        Check.due("7: two began", 2, () -> flow.count(6));
        Check.due("18: it overtakes", 1, () -> flow.progress(2));
        Check.due("18: since now", 3, () -> flow.progress(1));
        Check.tooEarly("29: one is in progress", () -> flow.begin(true));
        Check.tooEarly("29: one is in progress that overtakes", () -> flow.begin(false));
        Check.due("29: nothing changed", 2, () -> flow.count(6));
        flow.run(2);
        Check.due("28: none began at time 4", 2, () -> flow.count(6));
        flow.run(1);
        Check.due("29: completed", 2, () -> flow.count(7));
        Check.due("29: the next number", 3, () -> flow.begin(false));
        Check.due("18: it aligns", 0, () -> flow.progress(2));
    }

    private static void fail() {
        BarrierFlow flow = Flows.of("source a records 9 seed 0;source b records 9 seed 0;room 9;");
        flow.run(3);
        flow.begin(false);
        flow.run(1);
        Check.due("30: all are sent again", 8, flow::fail);
        for (int x = 0; x < 2; x++) {
            int s = x;
            Check.due("30: back to record 0", 0, () -> flow.source(s, 3));
            Check.due("30: empty channels", 0, () -> flow.inChannel(s, 0, false));
            Check.due("30: without barriers", 0, () -> flow.inChannel(s, 0, true));
        }
        Check.due("30: sums of 0", 0, () -> flow.sum(0) + flow.sum(1) + flow.sum(4) + flow.sum(5));
        Check.due("30: nothing is open", 0, () -> flow.sink(0, 0));
        Check.due("30: nothing on the way", 0, () -> flow.outChannel(0, 0, false));
        Check.due("30: nothing is blocked", 0, () -> flow.instance(0, 2));
        Check.due("30: none handled since", 0, () -> flow.instance(0, 1));
        Check.due("30: the checkpoint has ended", -1, () -> flow.progress(0));
        Check.due("30: the time goes on", 4, () -> flow.count(5));
        Check.due("7: a failure", 1, () -> flow.count(8));
        Check.due("30: none to be sent again", 0, flow::fail);
        Check.due("7: two failures", 2, () -> flow.count(8));
        flow.run(1);
        // instances begin with channel 0 again, though source 0 was taken from last
        Check.due("30: source 0 first", 1, () -> flow.sum(0));
        Check.due("30: source 1 then", 0, () -> flow.sum(1));
    }

    private static void failShows() {
        BarrierFlow flow = Flows.of("source a records 4 seed 0;instances 2;");
        flow.run(4);
        flow.begin(false);
        flow.run(2);
        Check.due("14: closed, not shown", 4, () -> flow.sink(0, 1));
        Check.due("30: nothing is lost", 0, flow::fail);
        Check.due("30: what was completed is shown", 4, () -> flow.sink(0, 2));
        Check.due("30: none is closed", 0, () -> flow.sink(0, 1));
        Check.due("19: it is shown", 1, () -> flow.completed(5));
        Check.due("30: the sums are back", 23, () -> flow.sum(4));
        Check.due("30: the position is back", 4, () -> flow.source(0, 3));
        flow.run(5);
        Check.due("30: shown once", 4, () -> flow.sink(0, 2));

        failLosesClosed();
        failFrees();
        closedForOneInProgress();
    }

    // sink 0 closed its results, and a tick later sink 1 still has not: they are not shown for the checkpoint before
    private static void closedForOneInProgress() {
        BarrierFlow flow = Flows.of("source a records 40 seed 0;source b records 40 seed 1;source c records 40 seed 2;"
                + "source d records 40 seed 3;instances 3;sinks 2;room 2;");
        flow.begin(true);
        flow.run(10);
        Check.due("19: the one before is shown", 1, () -> flow.completed(5));
        flow.begin(false);
        flow.run(10);
        Check.due("14: sink 0 closed", 17, () -> flow.sink(0, 1));
        flow.run(1);
        Check.due("18: still in progress", 2, () -> flow.progress(0));
        Check.due("14: closed a tick later", 17, () -> flow.sink(0, 1));
        Check.due("14: none is shown", 0, () -> flow.sink(0, 2));
        flow.fail();
        Check.due("30: they are lost", 0, () -> flow.sink(0, 1));
        Check.due("30: and not shown for the one before", 0, () -> flow.sink(0, 2));
    }

    // channels are blocked, and both an instance and the sink took from channel 0 last, when the flow fails
    private static void failFrees() {
        BarrierFlow flow = Flows.of("source a records 20 seed 0;source b records 20 seed 0 lag 9;instances 2;room 9;");
        flow.run(1);
        Check.due("12: source 0 was taken from", 1, () -> flow.sum(0));
        flow.fail();
        flow.run(1);
        Check.due("30: and is again", 1, () -> flow.sum(0));
        Check.due("30: source 1 is not", 0, () -> flow.sum(1));
        flow.fail();
        flow.begin(false);
        flow.run(3);
        Check.due("13: blocked", 1, () -> flow.instance(0, 2));
        Check.due("13: blocked, too", 1, () -> flow.instance(1, 2));
        flow.fail();
        Check.due("30: not blocked", 0, () -> flow.instance(0, 2));
        Check.due("30: not blocked, either", 0, () -> flow.instance(1, 2));
        flow.run(1);
        Check.due("30: source 0 is taken from", 1, () -> flow.sum(0));

        // both instances have results on the way; the sink took from instance 0 last
        BarrierFlow sink = Flows.of("source a records 20 seed 0;source b records 20 seed 1;instances 2;room 9;");
        sink.run(1);
        Check.due("17: the sink took from instance 0", 0, () -> sink.outChannel(0, 0, false));
        Check.due("17: not from instance 1", 1, () -> sink.outChannel(1, 0, false));
        sink.fail();
        sink.run(1);
        Check.due("30: it takes from instance 0 again", 0, () -> sink.outChannel(0, 0, false));
        Check.due("30: not from instance 1", 1, () -> sink.outChannel(1, 0, false));
    }

    // two sinks: sink 0 closed its results, sink 1 still waits for a barrier, when the flow fails
    private static void failLosesClosed() {
        BarrierFlow half = Flows.of("source a records 20 seed 0;source b records 20 seed 1;source c records 20 seed 2;"
                + "source d records 20 seed 3;instances 3;sinks 2;room 1;");
        half.run(5);
        half.begin(false);
        half.run(7);
        Check.due("14: sink 0 closed", 8, () -> half.sink(0, 1));
        Check.due("14: sink 1 did not", 0, () -> half.sink(1, 1));
        Check.due("18: the checkpoint is in progress", 1, () -> half.progress(0));
        half.fail();
        Check.due("30: closed for no completed checkpoint: lost", 0, () -> half.sink(0, 1));
        Check.due("30: and not shown", 0, () -> half.sink(0, 2));
        Check.due("30: nor open", 0, () -> half.sink(0, 0) + half.sink(1, 0));
    }

    private static void rescale() {
        int[][] moved = {{0, 4, 5, 6}, {4, 0, 3, 6}, {5, 3, 0, 5}, {6, 6, 5, 0}};
        for (int a = 1; a <= 4; a++) {
            for (int b = 1; b <= 4; b++) {
                int before = a;
                int after = b;
                BarrierFlow flow = Flows.of("source a records 9 seed 0;instances " + before + ";");
                flow.run(3);
                Check.due("31: groups that move from " + a + " to " + b, moved[a - 1][b - 1],
                        () -> flow.rescale(after));
                Check.due("31: instances", after, () -> flow.count(1));
                Check.due("31: it is a failure", 1, () -> flow.count(8));
                Check.due("31: all is sent again", 0, () -> flow.source(0, 3));
                Check.due("31: the last instance", true, () -> flow.instance(after - 1, 0) > 0);
                Check.outside("31: no more", () -> flow.instance(after, 0));
                flow.run(20);
                Check.due("31: all is handled", 9, () -> flow.sink(0, 0));
            }
        }
        BarrierFlow flow = Flows.of("source a records 9 seed 0;");
        Check.illegal("31: 0 instances", () -> flow.rescale(0));
        Check.illegal("31: 5 instances", () -> flow.rescale(5));
        Check.illegal("31: -1 instances", () -> flow.rescale(-1));
        Check.due("31: nothing changed", 0, () -> flow.count(8));
    }

    // one instance, many sources: what waits before it is kept and goes to other instances
    private static void rescaleSpreadsRecords() {
        BarrierFlow flow = Flows.of("source a records 40 seed 0;source b records 40 seed 0;source c records 40 seed 0;room 6;");
        flow.run(12);
        flow.begin(true);
        flow.run(1);
        int kept = flow.completed(4);
        Check.due("19: much is kept", true, () -> kept > 8);
        int[] before = new int[3];
        for (int s = 0; s < 3; s++) {
            before[s] = -flow.notedPosition(s);
        }
        flow.rescale(4);
        int there = 0;
        for (int s = 0; s < 3; s++) {
            for (int i = 0; i < 4; i++) {
                there += flow.inChannel(s, i, false);
            }
        }
        int records = there;
        Check.due("31: all of it is in channels", kept, () -> records + flow.instance(0, 4) + flow.instance(1, 4)
                + flow.instance(2, 4) + flow.instance(3, 4));
        Check.due("31: the checkpoint keeps it", kept, () -> flow.completed(4));
        String first = channels(flow);
        flow.fail();
        Check.due("31: and has it there", first, () -> channels(flow));
        flow.rescale(1);
        flow.rescale(3);
        flow.rescale(4);
        Check.due("31: also by other ways", first, () -> channels(flow));
        flow.run(200);
        flow.begin(false);
        flow.run(100);
        sumsInOrder(flow);
    }

    private static String channels(BarrierFlow flow) {
        StringBuilder text = new StringBuilder();
        int instances = flow.count(1);
        int sources = flow.count(0);
        int sinks = flow.count(2);
        for (int i = 0; i < instances; i++) {
            for (int s = 0; s < sources; s++) {
                text.append(flow.inChannel(s, i, false)).append(' ');
            }
            for (int k = 0; k < sinks; k++) {
                text.append(flow.outChannel(i, k, false)).append(' ');
            }
        }
        return text.toString();
    }

    /** Every result that is shown is the sum of the first records of its key. */
    private static void sumsInOrder(BarrierFlow flow) {
        int[] seeds = new int[4];
        int[] seen = new int[16];
        int records = 0;
        for (int s = 0; s < flow.count(0); s++) {
            seeds[s] = flow.source(s, 1);
            records += flow.source(s, 0);
        }
        int sinks = flow.count(2);
        for (int k = 0; k < sinks; k++) {
            int sink = k;
            int size = flow.sink(sink, 2);
            for (int n = 0; n < size; n++) {
                int index = n;
                int key = flow.shown(sink, index, 0);
                seen[key]++;
                Check.due("31: result " + n + " of sink " + k, Flows.sumOf(key, seeds[key % 4], seen[key]),
                        () -> flow.shown(sink, index, 1));
            }
        }
        int shown = 0;
        for (int many : seen) {
            shown += many;
        }
        int all = shown;
        int due = records;
        Check.due("31: every record once", due, () -> all);
    }

    // four instances fill the ways to the one sink; then one instance owns them all
    private static void rescaleSpreadsResults() {
        BarrierFlow flow = Flows.of("source a records 40 seed 0;source b records 40 seed 1;source c records 40 seed 2;"
                + "source d records 40 seed 3;instances 4;room 5;");
        flow.run(40);
        flow.begin(true);
        flow.run(1);
        int results = 0;
        for (int i = 0; i < 4; i++) {
            results += flow.outChannel(i, 0, false);
        }
        int here = results;
        Check.due("17: the ways are full", true, () -> here > 9);
        flow.rescale(1);
        int all = flow.outChannel(0, 0, false);
        Check.due("31: more than the room", true, () -> all > 9);
        Check.due("31: what is kept", flow.completed(4), () -> all + flow.instance(0, 3));
        flow.run(1);
        Check.due("28: a full way stops the instance", 0, () -> flow.instance(0, 1));
        Check.due("28: the sink takes one", all - 1, () -> flow.outChannel(0, 0, false));
        flow.run(500);
        flow.setEvery(1, false);
        flow.run(100);
        sumsInOrder(flow);
        rescaleSpreadsForTwoSinks();
    }

    // the ways of three instances to two sinks are kept, and come to two other instances
    private static void rescaleSpreadsForTwoSinks() {
        BarrierFlow flow = Flows.of("source a records 50 seed 0;source b records 50 seed 1;source c records 50 seed 2;"
                + "source d records 50 seed 3;instances 3;sinks 2;room 9;");
        flow.run(35);
        flow.begin(true);
        flow.run(1);
        int[] results = new int[2];
        flow.fail();
        for (int k = 0; k < 2; k++) {
            for (int i = 0; i < 3; i++) {
                results[k] += flow.outChannel(i, k, false);
            }
        }
        Check.due("17: to both sinks", true, () -> results[0] > 0 && results[1] > 0);
        flow.rescale(2);
        for (int k = 0; k < 2; k++) {
            int sink = k;
            Check.due("31: results stay with sink " + k, results[k],
                    () -> flow.outChannel(0, sink, false) + flow.outChannel(1, sink, false));
        }
        flow.rescale(4);
        String four = channels(flow);
        flow.rescale(1);
        Check.due("31: all results of sink 0 from one instance", results[0], () -> flow.outChannel(0, 0, false));
        Check.due("31: all results of sink 1 from one instance", results[1], () -> flow.outChannel(0, 1, false));
        flow.rescale(4);
        Check.due("31: results go to their new owners", four, () -> channels(flow));
        Check.due("31: not all from instance 0", true, () -> flow.outChannel(0, 0, false) < results[0]);
        flow.run(300);
        flow.begin(false);
        flow.run(50);
        sumsInOrder(flow);
    }

    private static void setRoom() {
        BarrierFlow flow = Flows.of("source a records 50 seed 0;source b records 50 seed 0;");
        flow.run(30);
        Check.due("16: full", 4, () -> Math.max(flow.inChannel(0, 0, false), flow.inChannel(1, 0, false)));
        int before = flow.instance(0, 3);
        Check.due("32: the room before", 4, () -> flow.setRoom(1));
        Check.due("7: the room", 1, () -> flow.count(3));
        Check.due("32: what is in channels stays", before, () -> flow.instance(0, 3));
        int sent = flow.count(9);
        flow.run(3);
        Check.due("32: nothing more is sent", sent, () -> flow.count(9));
        Check.due("32: records are taken", before - 3, () -> flow.instance(0, 3));
        Check.due("32: the room before that", 1, () -> flow.setRoom(9));
        Check.due("32: the same again", 9, () -> flow.setRoom(9));
        flow.run(30);
        Check.due("32: nine fit", 9, () -> Math.max(flow.inChannel(0, 0, false), flow.inChannel(1, 0, false)));
        Check.illegal("32: room 0", () -> flow.setRoom(0));
        Check.illegal("32: room 10", () -> flow.setRoom(10));
        Check.due("32: nothing changed", 9, () -> flow.count(3));
    }

    private static void setLag() {
        BarrierFlow flow = Flows.of("source a records 50 seed 0 lag 4;source b records 50 seed 0;");
        Check.due("33: the lag before", 4, () -> flow.setLag(0, 9));
        Check.due("33: the lag before that", 9, () -> flow.setLag(0, 0));
        Check.due("33: of source 1", 0, () -> flow.setLag(1, 2));
        Check.due("9: the lag", 2, () -> flow.source(1, 2));
        Check.due("9: of source 0", 0, () -> flow.source(0, 2));
        Check.illegal("33: lag 10", () -> flow.setLag(1, 10));
        Check.illegal("33: lag -1", () -> flow.setLag(1, -1));
        Check.outside("33: source 2", () -> flow.setLag(2, 1));
        Check.outside("33: source -1", () -> flow.setLag(-1, 1));
        Check.outside("33: no such source comes first", () -> flow.setLag(2, 10));
        Check.due("33: nothing changed", 2, () -> flow.source(1, 2));
        flow.begin(true);
        flow.run(2);
        Check.due("33: source 1 waits 2 ticks", 1, () -> flow.progress(3));
        Check.due("33: then it puts its barrier", 1, () -> flow.run(1));
    }

    private static void setEvery() {
        BarrierFlow flow = Flows.of("source a records 50 seed 0 lag 1;every 7;");
        Check.due("34: every before", 7, () -> flow.setEvery(2, true));
        Check.due("7: every", 2, () -> flow.count(4));
        Check.due("7: they overtake", 1, () -> flow.count(11));
        flow.run(1);
        Check.due("34: begun by itself", 1, () -> flow.progress(2));
        Check.due("34: every before that", 2, () -> flow.setEvery(99, false));
        Check.due("7: they align", 0, () -> flow.count(11));
        Check.due("34: the one in progress still overtakes", 1, () -> flow.progress(2));
        Check.due("34: every 0", 99, () -> flow.setEvery(0, false));
        Check.illegal("34: every 100", () -> flow.setEvery(100, true));
        Check.illegal("34: every -1", () -> flow.setEvery(-1, true));
        Check.due("34: nothing changed", 0, () -> flow.count(4) + flow.count(11));
        flow.run(1);
        flow.setEvery(3, false);
        flow.run(1);
        Check.due("34: time 2 is no multiple of 3", -1, () -> flow.progress(0));
        flow.run(1);
        Check.due("34: time 3 is one", 2, () -> flow.progress(0));
        Check.due("34: it aligns", 0, () -> flow.progress(2));
    }

    private interface Change {
        void on(BarrierFlow flow);
    }

    private static BarrierFlow afterTicks(int ticks) {
        BarrierFlow flow = Flows.of("source a records 50 seed 0;source b records 50 seed 8 lag 3;"
                + "every 5;overtake;instances 3;sinks 2;room 3;");
        flow.run(ticks);
        return flow;
    }

    private static void undoEach() {
        Change[] changes = {f -> f.run(7), f -> f.run(500), f -> f.fail(), f -> f.rescale(1), f -> f.rescale(4),
            f -> f.setRoom(1), f -> f.setLag(1, 9), f -> f.setEvery(0, true), f -> f.setEvery(1, false)};
        for (int c = 0; c < changes.length; c++) {
            for (int ticks = 20; ticks < 26; ticks++) {
                BarrierFlow changed = afterTicks(ticks);
                String before = Flows.look(changed);
                changes[c].on(changed);
                String after = Flows.look(changed);
                Check.due("35: change " + c + " changes", false, () -> before.equals(after));
                BarrierFlow undone = afterTicks(ticks);
                changes[c].on(undone);
                Check.due("35: undo of change " + c, 1, undone::undo);
                Check.due("35: all is as before change " + c, before, () -> Flows.look(undone));
                changes[c].on(undone);
                Check.due("35: change " + c + " once more", after, () -> Flows.look(undone));
            }
        }
        BarrierFlow flow = Flows.of("source a records 50 seed 0 lag 1;");
        flow.begin(true);
        flow.undo();
        Check.due("35: of begin", -1, () -> flow.progress(0));
        Check.due("35: the number comes again", 1, () -> flow.begin(false));
        Check.due("35: in its other kind", 0, () -> flow.progress(2));
    }

    private static void undoOfSix() {
        BarrierFlow flow = Flows.of("source a records 50 seed 0;");
        Check.tooEarly("35: nothing to undo", flow::undo);
        for (int n = 1; n <= 9; n++) {
            int many = Math.min(n, 6);
            flow.run(n);
            Check.due("7: changes that can be undone", many, () -> flow.count(10));
        }
        int[] times = {36, 28, 21, 15, 10, 6};
        for (int n = 0; n < 6; n++) {
            int left = 5 - n;
            int time = times[n];
            Check.due("35: changes left", left, flow::undo);
            Check.due("35: the time", time, () -> flow.count(5));
            Check.due("7: changes left", left, () -> flow.count(10));
        }
        Check.tooEarly("35: no more than six", flow::undo);
        Check.due("35: nothing changed", 6, () -> flow.count(5));
        flow.setRoom(3);
        flow.run(2);
        Check.due("35: then two", 1, flow::undo);
        flow.setRoom(8);
        Check.due("35: an undone change is gone", 1, flow::undo);
        Check.due("35: the room", 3, () -> flow.count(3));
        flow.feed(0x61000000, 0, 0, 0, 0);
        flow.truncate(1);
        Check.due("35: the last one", 0, flow::undo);
        Check.due("35: the room of the text", 4, () -> flow.count(3));
        Check.due("35: the buffer stays", 0, flow::find);
    }

    private static void failedChangesAreNone() {
        BarrierFlow flow = Flows.of("source a records 50 seed 0 lag 9;");
        flow.begin(true);
        String before = Flows.look(flow);
        Check.answerOf(() -> flow.run(0));
        Check.answerOf(() -> flow.begin(true));
        Check.answerOf(() -> flow.rescale(5));
        Check.answerOf(() -> flow.setRoom(0));
        Check.answerOf(() -> flow.setLag(0, 10));
        Check.answerOf(() -> flow.setLag(1, 1));
        Check.answerOf(() -> flow.setEvery(100, true));
        Check.due("35: only begin can be undone", 1, () -> flow.count(10));
        Check.due("28-34: what throws changes nothing", before, () -> Flows.look(flow));
        Flows.parse(flow, "source");
        flow.printSink(0);
        Check.due("35: undo", 0, flow::undo);
        Check.due("35: the error stays", 1, flow::errorCode);
        Check.due("35: its offset stays", 6, flow::errorOffset);
        flow.setRoom(4);
        Check.due("35: a change that changes nothing is one", 1, () -> flow.count(10));
    }
}
