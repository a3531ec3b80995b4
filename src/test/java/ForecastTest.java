/** Promises 36 to 40: completesIn, wouldTake, wouldKeep, quietIn, bestInstances. */
final class ForecastTest {
    private static final String BUSY = "source a records 60 seed 0 lag 3;source b records 50 seed 7;"
            + "source c records 40 seed 3 lag 1;sinks 2;room 3;instances ";

    public static void main(String[] args) {
        completesIn();
        wouldTake();
        wouldKeep();
        quietIn();
        neverQuiet();
        bestInstances();
        nothingChanges();
        Check.end("ForecastTest");
    }

    private static void completesIn() {
        BarrierFlow flow = Flows.of("source a records 4 seed 0;instances 2;room 2;");
        Check.due("36: none in progress", -1, () -> flow.completesIn(500));
        flow.run(4);
        flow.begin(false);
        Check.due("36: not in 1 tick", -1, () -> flow.completesIn(1));
        Check.due("36: in 2 of 2", 2, () -> flow.completesIn(2));
        Check.due("36: in 2 of 500", 2, () -> flow.completesIn(500));
        Check.illegal("36: 0 ticks", () -> flow.completesIn(0));
        Check.illegal("36: 501 ticks", () -> flow.completesIn(501));
        Check.illegal("36: -1 ticks", () -> flow.completesIn(-1));
        flow.run(1);
        Check.due("36: in 1 of 1", 1, () -> flow.completesIn(1));
        flow.run(1);
        Check.due("36: it is completed", -1, () -> flow.completesIn(9));
        Check.illegal("36: 0 ticks, none in progress", () -> flow.completesIn(0));
        BarrierFlow every = Flows.of("source a records 4 seed 0;every 1;");
        Check.due("36: none is in progress yet", -1, () -> every.completesIn(9));
    }

    private static void wouldTake() {
        for (int n = 1; n <= 4; n++) {
            for (int ticks = 1; ticks < 60; ticks += 3) {
                for (int kind = 0; kind < 2; kind++) {
                    boolean overtaking = kind == 1;
                    BarrierFlow flow = Flows.of(BUSY + n + ";");
                    flow.run(ticks);
                    int due = flow.wouldTake(overtaking);
                    flow.begin(overtaking);
                    Check.due("37: " + n + " instances at " + ticks, due, () -> flow.completesIn(500));
                    Check.due("37: not earlier", 0, () -> due > 1 ? flow.run(due - 1) : 0);
                    Check.due("37: but then", 1, () -> flow.run(1));
                }
            }
        }
        BarrierFlow flow = Flows.of("source a records 4 seed 0;source b records 0 seed 0 lag 4;");
        Check.due("37: the greatest lag counts", 5, () -> flow.wouldTake(true));
        flow.begin(true);
        Check.due("37: one is in progress", -1, () -> flow.wouldTake(true));
        Check.due("37: one is in progress, too", -1, () -> flow.wouldTake(false));
        flow.run(5);
        Check.due("37: completed, then 5 again", 5, () -> flow.wouldTake(false));
        BarrierFlow own = Flows.of("source a records 4 seed 0 lag 2;every 1;overtake;");
        Check.due("37: with one that would begin by itself", 3, () -> own.wouldTake(false));
    }

    private static void wouldKeep() {
        for (int n = 1; n <= 4; n++) {
            for (int ticks = 1; ticks < 60; ticks += 3) {
                BarrierFlow flow = Flows.of(BUSY + n + ";");
                flow.run(ticks);
                int due = flow.wouldKeep();
                int takes = flow.wouldTake(true);
                flow.begin(true);
                Check.due("38: one is in progress", -1, flow::wouldKeep);
                flow.run(takes);
                Check.due("38: " + n + " instances at " + ticks, due, () -> flow.completed(4));
            }
        }
        BarrierFlow flow = Flows.of("source a records 4 seed 0;source b records 4 seed 1 lag 1;");
        Check.due("38: the record of source 1", 1, flow::wouldKeep);
        BarrierFlow none = new BarrierFlow();
        Check.due("38: nothing is there", 0, none::wouldKeep);
    }

    private static void quietIn() {
        BarrierFlow empty = new BarrierFlow();
        Check.due("39: it is so now", 0, empty::quietIn);
        BarrierFlow flow = Flows.of("source a records 4 seed 0;every 3;");
        // checkpoints at times 0, 3, 6; the last record goes at time 3, is handled at 4, closed at 6, shown at 7
        Check.due("39: until all is shown", 8, flow::quietIn);
        flow.run(7);
        Check.due("39: closed, not shown", 1, flow::quietIn);
        Check.due("14: closed", true, () -> flow.sink(0, 1) > 0);
        flow.run(1);
        Check.due("39: now", 0, flow::quietIn);
        flow.begin(true);
        Check.due("39: a checkpoint in progress does not matter", 0, flow::quietIn);
        BarrierFlow barrier = Flows.of("source a records 1 seed 0;source b records 0 seed 0 lag 9;overtake;");
        barrier.run(1);
        barrier.begin(true);
        barrier.run(12);
        barrier.begin(false);
        barrier.run(1);
        Check.due("14: a barrier waits for source 1", 1, () -> barrier.instance(0, 2));
        Check.due("39: barriers do not count", 0, barrier::quietIn);
        BarrierFlow sendsOne = Flows.of("source a records 1 seed 0;every 1;");
        // sent at 0 behind a barrier, handled at 1 before the next one, that is completed at 2: shown at 3
        Check.due("39: a record to be sent", 4, sendsOne::quietIn);
    }

    private static void neverQuiet() {
        BarrierFlow flow = Flows.of("source a records 4 seed 0;");
        Check.due("39: open results for ever", -1, flow::quietIn);
        flow.run(9);
        Check.due("39: open results only", -1, flow::quietIn);
        // 800 records through one instance take 800 ticks and a few more
        BarrierFlow most = Flows.of("source a records 200 seed 0;source b records 200 seed 0;source c records 200 seed 0;"
                + "source d records 200 seed 0;every 9;overtake;");
        int due = most.quietIn();
        Check.due("39: 800 records", true, () -> due > 800 && due < 830);
        most.run(500);
        Check.due("39: 500 ticks later", due - 500, most::quietIn);
        most.run(due - 501);
        Check.due("39: the tick before", 1, most::quietIn);
        most.run(1);
        Check.due("39: then", 0, most::quietIn);
        withinAThousand();
    }

    // each checkpoint blocks the channel of source a for 9 ticks, until the barrier of the empty source b comes
    private static void withinAThousand() {
        BarrierFlow flow = Flows.of("source a records 110 seed 0;source b records 0 seed 0 lag 9;every 1;room 1;");
        int ticks = 0;
        while (flow.quietIn() == -1 && ticks < 900) {
            flow.run(1);
            ticks++;
        }
        int first = ticks;
        Check.due("39: it takes more than 1000 ticks", true, () -> first > 0);
        Check.due("39: 1000 ticks are within 1000", 1000, flow::quietIn);
        flow.undo();
        Check.due("39: 1001 are not", -1, flow::quietIn);
        flow.run(500);
        flow.run(500);
        Check.due("39: the last of 1001", 1, flow::quietIn);
    }

    private static void bestInstances() {
        for (int t = 1; t <= 40; t++) {
            int ticks = t;
            for (int before = 1; before <= 4; before++) {
                int best = 0;
                int most = -1;
                for (int n = 1; n <= 4; n++) {
                    BarrierFlow flow = Flows.of(BUSY + before + ";every 6;overtake;");
                    flow.run(31);
                    flow.rescale(n);
                    flow.run(ticks);
                    int handled = 0;
                    for (int i = 0; i < n; i++) {
                        handled += flow.instance(i, 1);
                    }
                    if (handled > most) {
                        most = handled;
                        best = n;
                    }
                }
                BarrierFlow flow = Flows.of(BUSY + before + ";every 6;overtake;");
                flow.run(31);
                Check.due("40: " + before + " instances, " + ticks + " ticks", best, () -> flow.bestInstances(ticks));
            }
        }
        BarrierFlow tie = Flows.of("source a records 4 seed 0;instances 3;");
        Check.due("40: the smallest one on a tie", 1, () -> tie.bestInstances(500));
        Check.due("40: of none at all", 1, () -> new BarrierFlow().bestInstances(1));
        BarrierFlow two = Flows.of("source a records 4 seed 0;source b records 4 seed 1;");
        // keys 0 and 5, of groups 0 and 5: two instances handle both in the first tick
        Check.due("40: two", 2, () -> two.bestInstances(1));
        BarrierFlow four = Flows.of("source a records 4 seed 0;source b records 4 seed 1;source c records 4 seed 0;"
                + "source d records 4 seed 1;");
        // keys 0, 5, 2 and 7: three instances have groups 0 and 2 in one
        Check.due("40: four", 4, () -> four.bestInstances(1));
        Check.illegal("40: 0 ticks", () -> tie.bestInstances(0));
        Check.illegal("40: 501 ticks", () -> tie.bestInstances(501));
        Check.illegal("40: -1 ticks", () -> tie.bestInstances(-1));
    }

    private static void nothingChanges() {
        for (int t = 1; t <= 40; t++) {
            BarrierFlow flow = Flows.of(BUSY + "3;every 6;overtake;");
            flow.setRoom(2);
            flow.run(t);
            String before = Flows.look(flow);
            flow.completesIn(20);
            flow.wouldTake(true);
            flow.wouldTake(false);
            flow.wouldKeep();
            flow.quietIn();
            flow.bestInstances(20);
            Check.due("36-40: nothing changes at " + t, before, () -> Flows.look(flow));
            Check.due("36-40: no change of the section Changes", 2, () -> flow.count(10));
        }
    }
}
