/** Promises 7 and 9 to 17: what there is, and the phases of a tick seen in it. */
final class LookTest {
    public static void main(String[] args) {
        records();
        owners();
        firstTicks();
        fullChannels();
        wrongNumbers();
        counts();
        blocked();
        turns();
        secondSink();
        resultsOfBothSinks();
        barrierInChannel();
        barriersOfFour();
        shown();
        Check.end("LookTest");
    }

    private static void records() {
        BarrierFlow flow = Flows.of("source a records 4 seed 0;source b records 200 seed 999 lag 3;");
        // i * i + i / 2 is 0, 1, 5, 10; modulo 4: 0, 1, 1, 2
        int[] keys = {0, 4, 4, 8};
        int[] values = {1, 8, 15, 22};
        for (int i = 0; i < 4; i++) {
            int index = i;
            Check.due("10: key " + i, keys[i], () -> flow.record(0, index, 0));
            Check.due("10: value " + i, values[i], () -> flow.record(0, index, 1));
        }
        Check.due("10: key 0 of source 1", 4 * (999 % 4) + 1, () -> flow.record(1, 0, 0));
        Check.due("10: value 0 of source 1", 999 % 50 + 1, () -> flow.record(1, 0, 1));
        Check.due("10: key 199 of source 1", 4 * ((999 + 199 * 199 + 99) % 4) + 1, () -> flow.record(1, 199, 0));
        Check.due("10: value 199 of source 1", (999 + 7 * 199) % 50 + 1, () -> flow.record(1, 199, 1));
        Check.outside("10: record 200", () -> flow.record(1, 200, 0));
        Check.outside("10: record 4 of 4", () -> flow.record(0, 4, 0));
        Check.outside("10: record -1", () -> flow.record(0, -1, 0));
        Check.outside("10: source 2", () -> flow.record(2, 0, 0));
        Check.outside("10: source -1", () -> flow.record(-1, 0, 0));
        Check.outside("10: what 2", () -> flow.record(0, 0, 2));
        Check.outside("10: what -1", () -> flow.record(0, 0, -1));
        Check.outside("10: index by far", () -> flow.record(0, Integer.MAX_VALUE, 0));
        flow.run(3);
        Check.due("9: records", 200, () -> flow.source(1, 0));
        Check.due("9: seed", 999, () -> flow.source(1, 1));
        Check.due("9: lag", 3, () -> flow.source(1, 2));
        Check.due("9: position", 3, () -> flow.source(1, 3));
        Check.outside("9: what 4", () -> flow.source(1, 4));
        Check.outside("9: what -1", () -> flow.source(1, -1));
        Check.outside("9: source 2", () -> flow.source(2, 0));
        Check.outside("9: source -1", () -> flow.source(-1, 0));
    }

    private static void owners() {
        int[][] owners = {
            {0, 0, 0, 0, 0, 0, 0, 0},
            {0, 0, 0, 0, 1, 1, 1, 1},
            {0, 0, 0, 1, 1, 1, 2, 2},
            {0, 0, 1, 1, 2, 2, 3, 3}};
        int[][] groups = {{8}, {4, 4}, {3, 3, 2}, {2, 2, 2, 2}};
        for (int n = 1; n <= 4; n++) {
            BarrierFlow flow = Flows.of("source a records 0 seed 0;instances " + n + ";");
            for (int k = 0; k < 16; k++) {
                int key = k;
                Check.due("11: owner of " + k + " of " + n, owners[n - 1][k % 8], () -> flow.owner(key));
            }
            for (int i = 0; i < n; i++) {
                int instance = i;
                Check.due("13: groups of " + i + " of " + n, groups[n - 1][i], () -> flow.instance(instance, 0));
            }
            int beyond = n;
            Check.outside("13: instance " + n, () -> flow.instance(beyond, 0));
            Check.illegal("11: key -1", () -> flow.owner(-1));
            Check.illegal("11: key 16", () -> flow.owner(16));
        }
    }

    private static void firstTicks() {
        BarrierFlow flow = Flows.of("source a records 4 seed 0;instances 2;sinks 2;");
        flow.run(1);
        // the record goes all the way in one tick: sources come before instances, instances before sinks
        Check.due("12: sum of key 0", 1, () -> flow.sum(0));
        Check.due("14: open", 1, () -> flow.sink(0, 0));
        Check.due("13: handled by instance 0", 1, () -> flow.instance(0, 1));
        Check.due("13: handled by instance 1", 0, () -> flow.instance(1, 1));
        Check.due("16: nothing stays", 0, () -> flow.inChannel(0, 0, false));
        Check.due("17: nothing stays", 0, () -> flow.outChannel(0, 0, false));
        flow.run(3);
        Check.due("12: sum of key 4", 23, () -> flow.sum(4));
        Check.due("12: sum of key 8", 22, () -> flow.sum(8));
        Check.due("12: sum of key 12", 0, () -> flow.sum(12));
        Check.due("12: sum of a key without source", 0, () -> flow.sum(3));
        // keys 0 and 8 go to sink 0, key 4 to sink 1
        Check.due("14: open in sink 0", 2, () -> flow.sink(0, 0));
        Check.due("14: open in sink 1", 2, () -> flow.sink(1, 0));
        Check.due("14: none closed", 0, () -> flow.sink(0, 1));
        Check.due("14: none shown", 0, () -> flow.sink(0, 2));
        Check.illegal("12: key -1", () -> flow.sum(-1));
        Check.illegal("12: key 16", () -> flow.sum(16));
    }

    private static void fullChannels() {
        // seeds of 0: all three sources send their first records to the one instance, that takes one a tick
        BarrierFlow flow = Flows.of("source a records 9 seed 0;source b records 9 seed 0;source c records 9 seed 0;room 2;");
        flow.run(1);
        // it took the record of source 0; those of sources 1 and 2 stay
        Check.due("16: source 0", 0, () -> flow.inChannel(0, 0, false));
        Check.due("16: source 1", 1, () -> flow.inChannel(1, 0, false));
        Check.due("16: source 2", 1, () -> flow.inChannel(2, 0, false));
        Check.due("13: records to it", 2, () -> flow.instance(0, 3));
        flow.run(1);
        // then of source 1
        Check.due("16: source 0 next", 1, () -> flow.inChannel(0, 0, false));
        Check.due("16: source 1 next", 1, () -> flow.inChannel(1, 0, false));
        Check.due("16: source 2 next", 2, () -> flow.inChannel(2, 0, false));
        flow.run(1);
        // the channel of source 2 was full when source 2 looked, then it was taken from
        Check.due("9: source 2 had to wait", 2, () -> flow.source(2, 3));
        Check.due("16: source 2 then", 1, () -> flow.inChannel(2, 0, false));
        Check.due("9: source 1 had not", 3, () -> flow.source(1, 3));
        Check.due("7: records sent", 8, () -> flow.count(9));
        flow.run(50);
        Check.due("9: all is sent in the end", 9, () -> flow.source(2, 3));
        Check.due("13: all is handled", 27, () -> flow.instance(0, 1));
        fullWays();
    }

    // three instances feed one sink, that takes one result a tick: their ways to it fill up
    private static void fullWays() {
        BarrierFlow flow = Flows.of("source a records 50 seed 0;source b records 50 seed 1;source c records 50 seed 2;"
                + "source d records 50 seed 3;instances 4;room 1;");
        flow.run(12);
        int out = 0;
        for (int i = 0; i < 4; i++) {
            int instance = i;
            int many = flow.outChannel(i, 0, false);
            Check.due("17: a room of 1 holds of instance " + i, true, () -> many <= 1);
            Check.due("13: results from instance " + i, many, () -> flow.instance(instance, 4));
            out += many;
        }
        int all = out;
        Check.due("17: the ways to the sink are used", true, () -> all >= 3);
        int handled = 0;
        for (int i = 0; i < 4; i++) {
            handled += flow.instance(i, 1);
        }
        int results = handled;
        Check.due("14: every result is open or on its way", results - all, () -> flow.sink(0, 0));
        Check.due("14: one a tick", 12, () -> flow.sink(0, 0));
    }

    private static void wrongNumbers() {
        BarrierFlow flow = Flows.of("source a records 4 seed 0;source b records 4 seed 0;instances 3;");
        Check.due("7: what 12", -1, () -> flow.count(12));
        Check.due("7: what -1", -1, () -> flow.count(-1));
        Check.due("7: what by far", -1, () -> flow.count(Integer.MIN_VALUE));
        Check.outside("13: instance -1", () -> flow.instance(-1, 0));
        Check.outside("13: what -1", () -> flow.instance(0, -1));
        Check.outside("13: what 5", () -> flow.instance(0, 5));
        Check.outside("14: sink 1", () -> flow.sink(1, 0));
        Check.outside("14: sink -1", () -> flow.sink(-1, 0));
        Check.outside("14: what 4", () -> flow.sink(0, 4));
        Check.outside("14: what -1", () -> flow.sink(0, -1));
        Check.outside("16: source 2", () -> flow.inChannel(2, 0, false));
        Check.outside("16: source -1", () -> flow.inChannel(-1, 0, true));
        Check.outside("16: instance 3", () -> flow.inChannel(0, 3, false));
        Check.outside("16: instance -1", () -> flow.inChannel(0, -1, true));
        Check.outside("17: instance 3", () -> flow.outChannel(3, 0, false));
        Check.outside("17: instance -1", () -> flow.outChannel(-1, 0, true));
        Check.outside("17: sink 1", () -> flow.outChannel(0, 1, false));
        Check.outside("17: sink -1", () -> flow.outChannel(0, -1, true));
    }

    private static void counts() {
        BarrierFlow flow = Flows.of("source a records 9 seed 0;source b records 9 seed 0;instances 2;sinks 2;room 3;"
                + "every 4;overtake;");
        flow.run(6);
        flow.fail();
        flow.rescale(3);
        // checkpoints began at times 0 and 4; behind the failure, at time 6, one is begun by hand
        flow.begin(false);
        long[] counts = {2, 3, 2, 3, 4, 6, 3, 2, 2, flow.count(9), 4, 1};
        for (int what = 0; what < counts.length; what++) {
            int w = what;
            Check.due("7: count " + w, counts[w], () -> flow.count(w));
        }
        int sent = flow.count(9);
        Check.due("7: sent is not less than the positions", true,
                () -> sent > flow.source(0, 3) + flow.source(1, 3));
        flow.run(1);
        Check.due("7: sent again counts again", sent + 2, () -> flow.count(9));
    }

    private static void blocked() {
        // source 1 puts its barriers 3 ticks later: until then the channel of source 0 is blocked
        BarrierFlow flow = Flows.of("source a records 9 seed 0;source b records 9 seed 0 lag 3;instances 2;");
        flow.begin(false);
        flow.run(1);
        Check.due("13: instance 0 blocks source 0", 1, () -> flow.instance(0, 2));
        Check.due("13: instance 1 blocks source 0", 1, () -> flow.instance(1, 2));
        Check.due("16: its barrier has gone", 0, () -> flow.inChannel(0, 0, true));
        Check.due("16: a record stands behind it", 1, () -> flow.inChannel(0, 0, false));
        Check.due("12: it is not taken", 0, () -> flow.sum(0));
        flow.run(2);
        Check.due("18: source 1 has not put its barriers", 1, () -> flow.progress(3));
        Check.due("13: source 0 stays blocked", 1, () -> flow.instance(0, 2));
        Check.due("12: records of source 1 are taken", 1, () -> flow.sum(1));
        Check.due("12: those of source 0 are not", 0, () -> flow.sum(0));
        flow.run(1);
        Check.due("18: now it has, and they arrived", 4, () -> flow.progress(4));
        flow.run(4);
        Check.due("13: nothing is blocked then", 0, () -> flow.instance(0, 2));
        Check.due("13: nothing is blocked then, either", 0, () -> flow.instance(1, 2));
        Check.due("7: it is completed", 1, () -> flow.count(7));

        BarrierFlow sinks = Flows.of("source a records 4 seed 0;instances 2;");
        sinks.run(4);
        sinks.begin(false);
        sinks.run(1);
        // both instances put their barriers; sink 0 took its last result from instance 0: now it takes instance 1's
        Check.due("14: the sink blocks instance 1", 2, () -> sinks.sink(0, 3));
        Check.due("17: the barrier of instance 0 waits", 1, () -> sinks.outChannel(0, 0, true));
        Check.due("17: that of instance 1 has gone", 0, () -> sinks.outChannel(1, 0, true));
        Check.due("14: all results are open", 4, () -> sinks.sink(0, 0));
        sinks.run(1);
        Check.due("14: nothing is blocked any more", 0, () -> sinks.sink(0, 3));
        Check.due("14: the results are closed", 4, () -> sinks.sink(0, 1));
        Check.due("14: none is open", 0, () -> sinks.sink(0, 0));
        Check.due("14: none is shown yet", 0, () -> sinks.sink(0, 2));
        sinks.run(1);
        Check.due("14: none is closed", 0, () -> sinks.sink(0, 1));
        Check.due("14: they are shown", 4, () -> sinks.sink(0, 2));
    }

    private static void resultsOfBothSinks() {
        // one instance, two sinks, and results that come again by a failure: both its ways hold some
        BarrierFlow flow = Flows.of("source a records 60 seed 0;source b records 60 seed 1;source c records 60 seed 2;"
                + "source d records 60 seed 3;instances 4;sinks 2;room 3;");
        flow.run(20);
        flow.begin(true);
        flow.run(1);
        flow.rescale(1);
        int first = flow.outChannel(0, 0, false);
        int second = flow.outChannel(0, 1, false);
        Check.due("17: results to both sinks", true, () -> first > 0 && second > 0);
        Check.due("13: results to both sinks", first + second, () -> flow.instance(0, 4));
        int records = 0;
        for (int s = 0; s < 4; s++) {
            records += flow.inChannel(s, 0, false);
        }
        int kept = records + first + second;
        Check.due("19: kept in all", kept, () -> flow.completed(4));
        for (int tick = 1; tick <= 2; tick++) {
            int many = tick;
            flow.run(1);
            Check.due("14: sink 0 takes one", many, () -> flow.sink(0, 0));
            Check.due("14: sink 1 takes one", many, () -> flow.sink(1, 0));
        }
    }

    // a barrier stands in the very first channel, behind a record
    private static void barrierInChannel() {
        BarrierFlow flow = Flows.of("source a records 9 seed 0;source b records 9 seed 0;");
        flow.run(4);
        flow.begin(false);
        flow.run(1);
        Check.due("16: source 0's barrier waits", 1, () -> flow.inChannel(0, 0, true));
        Check.due("16: source 1's barrier waits", 1, () -> flow.inChannel(1, 0, true));
        Check.due("16: records beside it", 2, () -> flow.inChannel(0, 0, false));
        Check.due("13: records alone", 5, () -> flow.instance(0, 3));
        Check.due("18: none arrived", 0, () -> flow.progress(4));
    }

    // sources put barriers for the instances alone, of which there are as many as there can be
    private static void barriersOfFour() {
        BarrierFlow flow = Flows.of("source a records 9 seed 0;source b records 9 seed 0 lag 9;source c records 9 seed 0;"
                + "source d records 9 seed 0;instances 4;sinks 2;");
        flow.begin(false);
        flow.run(4);
        Check.due("18: three sources put theirs", 3, () -> flow.progress(3));
        for (int i = 0; i < 4; i++) {
            int instance = i;
            Check.due("17: none to sink 0 from instance " + i, 0, () -> flow.outChannel(instance, 0, true));
            Check.due("17: none to sink 1 from instance " + i, 0, () -> flow.outChannel(instance, 1, true));
            Check.due("13: blocked by instance " + i, 13, () -> flow.instance(instance, 2));
        }
        Check.due("14: sink 0 blocks none", 0, () -> flow.sink(0, 3));
        Check.due("18: none arrived at sinks", 0, () -> flow.progress(5));
    }

    // results of keys 4 and 12 go to sink 1, which is slower here: three of four results come to it
    private static void secondSink() {
        BarrierFlow flow = Flows.of("source a records 9 seed 1;source b records 9 seed 1;source c records 2 seed 0;"
                + "instances 3;sinks 2;");
        // first keys: 4 and 5 (owner 1), 2 (owner 0); instance 1 takes key 4, then 5, of sink 1
        flow.run(1);
        Check.due("14: key 2 is of sink 0", 1, () -> flow.sink(0, 0));
        Check.due("14: key 4 is of sink 1", 1, () -> flow.sink(1, 0));
        flow.begin(false);
        int waits = 0;
        int blocks = 0;
        for (int t = 0; t < 9 && flow.progress(0) != -1; t++) {
            flow.run(1);
            waits += flow.outChannel(0, 1, true) + flow.outChannel(1, 1, true) + flow.outChannel(2, 1, true);
            blocks |= flow.sink(1, 3);
        }
        int mask = blocks;
        int many = waits;
        Check.due("14: sink 1 blocked instances 0 and 2, that had nothing for it", 5, () -> mask & 5);
        Check.due("17: barriers waited before sink 1", true, () -> many > 0);
        Check.due("19: completed", 1, () -> flow.completed(0));
        Check.due("14: closed by sink 1", true, () -> flow.sink(1, 1) > 1);
        int closed = flow.sink(1, 1);
        flow.run(1);
        Check.due("14: shown by sink 1", closed, () -> flow.sink(1, 2));
        Check.due("14: none closed by sink 1", 0, () -> flow.sink(1, 1));
    }

    // an instance begins behind the source that it took from last, also if that was several ticks ago
    private static void turns() {
        BarrierFlow flow = Flows.of("source a records 1 seed 0;source b records 5 seed 0;source c records 5 seed 0;");
        int[][] handled = {{1, 0, 0}, {1, 1, 0}, {1, 1, 1}, {1, 2, 1}, {1, 2, 2}, {1, 3, 2}};
        for (int t = 0; t < handled.length; t++) {
            flow.run(1);
            for (int s = 0; s < 3; s++) {
                int source = s;
                Check.due("28: tick " + t + ", records of source " + s + " handled", handled[t][s],
                        () -> flow.source(source, 3) - flow.inChannel(source, 0, false));
            }
        }
    }

    private static void shown() {
        BarrierFlow flow = Flows.of("source a records 4 seed 0;instances 2;sinks 2;");
        Check.outside("15: sink 2", () -> flow.shown(2, 0, 0));
        Check.outside("15: sink -1", () -> flow.shown(-1, 0, 0));
        Check.outside("15: what 2", () -> flow.shown(0, 0, 2));
        Check.outside("15: what -1", () -> flow.shown(0, 0, -1));
        Check.due("15: nothing is shown", "throws.NoSuchElementException", () -> flow.shown(0, 0, 0));
        flow.run(4);
        flow.begin(false);
        flow.run(4);
        int[][] results = {{0, 0, 1}, {0, 8, 22}, {1, 4, 8}, {1, 4, 23}};
        for (int n = 0; n < 4; n++) {
            int[] result = results[n];
            int index = n % 2;
            Check.due("15: key " + n, result[1], () -> flow.shown(result[0], index, 0));
            Check.due("15: sum " + n, result[2], () -> flow.shown(result[0], index, 1));
        }
        Check.due("15: no third", "throws.NoSuchElementException", () -> flow.shown(0, 2, 0));
        Check.due("15: none before the first", "throws.NoSuchElementException", () -> flow.shown(0, -1, 1));
        Check.due("15: by far", "throws.NoSuchElementException", () -> flow.shown(0, Integer.MAX_VALUE, 1));
        Check.outside("15: no such part comes first", () -> flow.shown(0, 5, 2));
    }
}
