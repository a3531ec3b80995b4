/** The boundary cases of sections 2 and 3: records, channels, and the phases of a tick. */
final class EdgesOfTicks {
    private EdgesOfTicks() {
    }

    static void all() {
        records();
        recordNumbers();
        keys();
        owners();
        sinksOfKeys();
        channels();
        orderInChannel();
        fullOfRecords();
        fullOfResults();
        barriersNotCounted();
        time();
        beginsByItself();
        isShown();
        lags();
        notedPositions();
        barriersBehindAll();
        sends();
        waitsForItsChannel();
        overtakingArrives();
        handlesOne();
        goesRound();
        whatArrivesIsNotTaken();
        cannotBeTaken();
        sinkIsFull();
        barrierBeforeFullWay();
        adds();
        sinksTakeInTurn();
        nothingIsFullForSinks();
        completes();
    }

    /** How many records of a source an instance has handled, if the flow never failed. */
    private static int handled(BarrierFlow flow, int source) {
        int waiting = 0;
        for (int i = 0; i < flow.count(1); i++) {
            waiting += flow.inChannel(source, i, false);
        }
        return flow.source(source, 3) - waiting;
    }

    private static void records() {
        Doc.says("section 2", "Record i has the key 4 * ((seed + i * i + i / 2) modulo 4) + s, "
                + "where i / 2 is rounded down, and the value (seed + 7 * i) modulo 50 + 1.");
        int[] seeds = {0, 1, 2, 3, 49, 50, 998, 999};
        for (int n = 0; n < seeds.length; n++) {
            int s = n % 4;
            int seed = seeds[n];
            String text = " records 200 seed " + seed + ";";
            BarrierFlow flow = Flows.of("source a" + text + "source b" + text + "source c" + text + "source d" + text);
            for (int i = 0; i < 200; i++) {
                int index = i;
                Check.due("key " + i + " of seed " + seed, 4 * ((seed + i * i + i / 2) % 4) + s,
                        () -> flow.record(s, index, 0));
                Check.due("value " + i + " of seed " + seed, (seed + 7 * i) % 50 + 1, () -> flow.record(s, index, 1));
            }
        }
        BarrierFlow flow = Flows.of("source a records 8 seed 0;source b records 8 seed 1;source c records 2 seed 999;");
        int[] keys = {0, 4, 4, 8, 8, 12, 12, 0};
        int[] values = {1, 8, 15, 22, 29, 36, 43, 50};
        for (int i = 0; i < 8; i++) {
            int index = i;
            Check.due("1 / 2 is 0, 3 / 2 is 1, ..: key " + i, keys[i], () -> flow.record(0, index, 0));
            Check.due("value " + i, values[i], () -> flow.record(0, index, 1));
            Check.due("a seed more: key " + i, (keys[i] + 4) % 16 + 1, () -> flow.record(1, index, 0));
            Check.due("a seed more: value " + i, values[i] % 50 + 1, () -> flow.record(1, index, 1));
        }
        Check.due("999 modulo 50 is 49", 50, () -> flow.record(2, 0, 1));
        Check.due("1006 modulo 50 is 6", 7, () -> flow.record(2, 1, 1));
        Check.due("999 modulo 4 is 3", 14, () -> flow.record(2, 0, 0));
        Check.due("1000 modulo 4 is 0", 2, () -> flow.record(2, 1, 0));
    }

    private static void recordNumbers() {
        Doc.says("section 2", "The records of source s are numbered from 0.");
        for (int records : new int[] {0, 1, 200}) {
            BarrierFlow flow = Flows.of("source a records " + records + " seed 0;");
            Check.outside("no record -1", () -> flow.record(0, -1, 0));
            Check.outside("no record " + records, () -> flow.record(0, records, 0));
            if (records > 0) {
                Check.due("record 0", 0, () -> flow.record(0, 0, 0));
                Check.due("record " + (records - 1), (7 * (records - 1)) % 50 + 1,
                        () -> flow.record(0, records - 1, 1));
            }
        }
    }

    private static void keys() {
        Doc.says("section 2", "So the keys are 0 to 15, and all records of a key come from one source.");
        BarrierFlow flow = Flows.of("source a records 9 seed 0;source b records 9 seed 1;source c records 9 seed 2;"
                + "source d records 9 seed 3;");
        int seen = 0;
        for (int s = 0; s < 4; s++) {
            for (int i = 0; i < 9; i++) {
                int key = flow.record(s, i, 0);
                int source = s;
                Check.due("the source of key " + key, source, () -> key % 4);
                seen |= 1 << key;
            }
        }
        int mask = seen;
        Check.due("0 to 15, no more", 0xffff, () -> mask);
    }

    private static void owners() {
        Doc.says("section 2", "The group of a key is key modulo 8; the owner of a group is the instance group * "
                + "(number of instances) / 8, rounded down.");
        String[] owners = {"00000000", "00001111", "00011122", "00112233"};
        for (int n = 1; n <= 4; n++) {
            BarrierFlow flow = Flows.of("source a records 0 seed 0;instances " + n + ";");
            for (int k = 0; k < 16; k++) {
                int key = k;
                Check.due(n + " instances, key " + k, owners[n - 1].charAt(k % 8) - '0', () -> flow.owner(key));
            }
        }
    }

    // the first keys of four sources with seed q are 4q to 4q + 3
    private static void sinksOfKeys() {
        Doc.says("section 2", "The sink of a key is key / 4, rounded down, modulo the number of sinks.");
        for (int sinks = 1; sinks <= 2; sinks++) {
            for (int seed = 0; seed < 4; seed++) {
                String text = " records 1 seed " + seed + ";";
                BarrierFlow flow = Flows.of("source a" + text + "source b" + text + "source c" + text + "source d"
                        + text + "sinks " + sinks + ";");
                flow.run(4);
                for (int k = 0; k < sinks; k++) {
                    int sink = k;
                    Check.due("keys from " + 4 * seed + " in sink " + k + " of " + sinks, seed % sinks == k ? 4 : 0,
                            () -> flow.sink(sink, 0));
                }
            }
        }
    }

    private static void channels() {
        Doc.says("section 2", "There is a channel from each source to each instance, and one from each instance to each sink.");
        BarrierFlow flow = Flows.of("source a records 0 seed 0;source b records 0 seed 0;source c records 0 seed 0;"
                + "source d records 0 seed 0 lag 1;instances 4;sinks 2;");
        flow.begin(false);
        flow.run(3);
        // the barriers of three sources came through a channel to each instance, those of source 3 are on their way
        Check.due("16 from sources, one of each still waits", 12, () -> flow.progress(4));
        for (int i = 0; i < 4; i++) {
            int instance = i;
            Check.due("from source 3", 1, () -> flow.inChannel(3, instance, true));
            Check.due("from source 0", 0, () -> flow.inChannel(0, instance, true));
        }
        flow.run(1);
        Check.due("16 from sources", 16, () -> flow.progress(4));
        for (int i = 0; i < 4; i++) {
            for (int k = 0; k < 2; k++) {
                int instance = i;
                int sink = k;
                Check.due("from instance " + i + " to sink " + k, i == 0 ? 0 : 1,
                        () -> flow.outChannel(instance, sink, true));
            }
        }
        Check.due("2 arrived of 8 to sinks", 2, () -> flow.progress(5));
        Check.due("and one more tick for each", 3, () -> flow.completesIn(500));
    }

    private static void orderInChannel() {
        Doc.says("section 2", "A channel holds records (results, if it leads to a sink) and barriers in the order "
                + "in which they came.");
        BarrierFlow flow = Flows.of("source a records 9 seed 0;source b records 9 seed 0;");
        flow.run(1);
        flow.begin(false);
        flow.run(1);
        // source 1: its record 0, then the barrier, then record 1
        Check.due("a record before the barrier is taken first", 1, () -> flow.sum(1));
        Check.due("the barrier waits", 1, () -> flow.inChannel(1, 0, true));
        Check.due("a record behind it, too", 1, () -> flow.inChannel(1, 0, false));
        Check.due("nothing is blocked yet", 0, () -> flow.instance(0, 2));
        flow.run(1);
        Check.due("the barrier of source 0 comes before its record 1", 1, () -> flow.instance(0, 2));
        Check.due("record 1 of source 0 waits", 0, () -> flow.sum(4));
        flow.run(1);
        Check.due("the barrier of source 1 comes before its record 1", 0, () -> flow.sum(5));
        Check.due("that was the last one", 1, () -> flow.completed(0));
        flow.run(2);
        Check.due("then record 1 of source 0", 8, () -> flow.sum(4));
        Check.due("then record 1 of source 1", 8, () -> flow.sum(5));
    }

    private static void fullOfRecords() {
        Doc.says("section 2", "It is full if it holds as many records (or results) as the room, or more;");
        for (int room = 1; room <= 9; room++) {
            // source 0 is blocked until source 1 puts its barriers in tick 9
            BarrierFlow flow = Flows.of("source a records 50 seed 0;source b records 0 seed 0 lag 9;room " + room + ";");
            flow.begin(false);
            for (int t = 1; t <= 9; t++) {
                flow.run(1);
                int held = Math.min(t, room);
                Check.due("a room of " + room + " in tick " + t, held, () -> flow.inChannel(0, 0, false));
                Check.due("sent then", held, () -> flow.source(0, 3));
            }
        }
        BarrierFlow more = Flows.of("source a records 50 seed 0;source b records 0 seed 0 lag 9;room 9;");
        more.begin(false);
        more.run(5);
        more.setRoom(3);
        more.run(4);
        Check.due("5 of 3 is full", 5, () -> more.source(0, 3));
        more.setRoom(5);
        more.run(1);
        Check.due("5 of 5 is full; then the barrier arrived", 5, () -> more.source(0, 3));
        more.run(1);
        Check.due("still 5 when the source looked; one is taken then", 4, () -> more.inChannel(0, 0, false));
        more.setRoom(4);
        more.run(1);
        Check.due("4 of 4 is full", 5, () -> more.source(0, 3));
        more.run(1);
        Check.due("3 of 4 is not", 6, () -> more.source(0, 3));
    }

    private static void fullOfResults() {
        // first keys 0 and 5 go to instances 0 and 1, the next ones 4 and 9 to instances 1 and 0
        String text = "source a records 9 seed 0;source b records 9 seed 1;instances 2;room ";
        BarrierFlow one = Flows.of(text + "1;");
        one.run(1);
        Check.due("the sink took that of instance 0", 0, () -> one.outChannel(0, 0, false));
        Check.due("that of instance 1 stays", 1, () -> one.outChannel(1, 0, false));
        one.run(1);
        Check.due("1 of 1 is full", 1, () -> one.instance(1, 1));
        Check.due("the record stays", 1, () -> one.inChannel(0, 1, false));
        Check.due("0 of 1 is not", 2, () -> one.instance(0, 1));
        BarrierFlow two = Flows.of(text + "2;");
        two.run(2);
        Check.due("1 of 2 is not full", 2, () -> two.instance(1, 1));
        Check.due("its record was taken", 0, () -> two.inChannel(0, 1, false));
        BarrierFlow less = Flows.of(text + "9;");
        less.run(4);
        // eight results, four of them taken
        Check.due("two of each instance stay", "2 2", () -> less.outChannel(0, 0, false) + " "
                + less.outChannel(1, 0, false));
        less.setRoom(1);
        less.run(1);
        Check.due("2 of 1 is full", "4 4", () -> less.instance(0, 1) + " " + less.instance(1, 1));
        less.run(1);
        Check.due("1 of 1 is full then", "4 4", () -> less.instance(0, 1) + " " + less.instance(1, 1));
    }

    private static void barriersNotCounted() {
        Doc.says("section 2", "barriers do not count for this.");
        BarrierFlow records = Flows.of("source a records 9 seed 0;room 1;");
        records.begin(false);
        records.run(1);
        Check.due("a record behind a barrier in a room of 1", 1, () -> records.source(0, 3));
        // both instances put a barrier in tick 1, the sink took that of instance 0
        BarrierFlow results = Flows.of("source a records 9 seed 0;instances 2;room 1;");
        results.begin(false);
        results.run(1);
        Check.due("the barrier of instance 1 waits", 1, () -> results.outChannel(1, 0, true));
        results.run(1);
        Check.due("a result behind a barrier in a room of 1", 1, () -> results.instance(1, 1));
    }

    private static void time() {
        Doc.says("section 3", "the time is the number of ticks that have passed.");
        BarrierFlow flow = new BarrierFlow();
        Check.due("at first", 0, () -> flow.count(5));
        flow.run(1);
        Check.due("a tick", 1, () -> flow.count(5));
        flow.run(500);
        Check.due("500 more", 501, () -> flow.count(5));
        flow.begin(true);
        flow.fail();
        flow.rescale(2);
        flow.setRoom(2);
        flow.quietIn();
        Check.due("no tick", 501, () -> flow.count(5));
        for (int n = 0; n < 200; n++) {
            flow.run(500);
        }
        Check.due("100000 more", 100501, () -> flow.count(5));
    }

    private static void beginsByItself() {
        Doc.says("section 3",
                "If every is not 0, the time is a multiple of it, and no checkpoint is in progress, a checkpoint begins.");
        BarrierFlow never = Flows.of("source a records 9 seed 0;every 0;");
        never.run(500);
        Check.due("every 0", 0, () -> never.count(6));
        BarrierFlow each = Flows.of("source a records 0 seed 0;every 1;");
        Check.due("every 1", 500, () -> each.run(500));
        BarrierFlow rare = Flows.of("source a records 0 seed 0;every 99;");
        int[][] due = {{1, 1}, {98, 1}, {1, 2}, {98, 2}, {1, 3}};
        for (int[] step : due) {
            rare.run(step[0]);
            Check.due("every 99, at time " + rare.count(5), step[1], () -> rare.count(6));
        }
        Check.due("at a multiple", 198, () -> rare.completed(1));
        BarrierFlow slow = Flows.of("source a records 0 seed 0 lag 4;every 2;");
        slow.run(4);
        Check.due("one is in progress at times 2 and 4", 1, () -> slow.count(6));
        slow.run(1);
        Check.due("it is completed in the tick of time 4", 4, () -> slow.completed(2));
        Check.due("none began in it", 1, () -> slow.count(6));
        slow.run(1);
        Check.due("none at time 5", -1, () -> slow.progress(0));
        slow.run(1);
        Check.due("the next one at time 6", 6, () -> slow.progress(1));
        BarrierFlow own = Flows.of("source a records 0 seed 0 lag 1;every 3;");
        own.run(3);
        own.begin(true);
        own.run(1);
        Check.due("none at time 3, another is in progress", 2, () -> own.count(6));
    }

    private static void isShown() {
        Doc.says("section 3", "If the latest completed checkpoint is not shown yet, it is shown:");
        BarrierFlow flow = Flows.of("source a records 3 seed 0;");
        flow.run(3);
        flow.begin(false);
        flow.run(1);
        Check.due("closed in the tick in which it was completed", "3 0", () -> flow.sink(0, 1) + " " + flow.sink(0, 2));
        Check.due("not shown yet", 0, () -> flow.completed(5));
        flow.run(1);
        Check.due("shown in the next one", "0 3", () -> flow.sink(0, 1) + " " + flow.sink(0, 2));
        Check.due("it is shown", 1, () -> flow.completed(5));
        flow.run(9);
        Check.due("just once", 3, () -> flow.sink(0, 2));
        flow.begin(false);
        flow.run(2);
        Check.due("the next one has no results", 3, () -> flow.sink(0, 2));
        Check.due("and is shown, too", "2 1", () -> flow.completed(0) + " " + flow.completed(5));
        Doc.says("section 3", "each sink shows the results that it closed for it, in their order.");
        int[][] due = {{0, 1}, {4, 8}, {4, 23}};
        for (int n = 0; n < 3; n++) {
            int index = n;
            Check.due("key " + n, due[n][0], () -> flow.shown(0, index, 0));
            Check.due("sum " + n, due[n][1], () -> flow.shown(0, index, 1));
        }
        // in the tick in which the results are closed, each sink takes one more
        BarrierFlow open = Flows.of("source a records 9 seed 0;source b records 9 seed 1;instances 2;sinks 2;");
        open.run(2);
        open.begin(true);
        open.run(1);
        Check.due("closed, and one open", "1 2 0, 1 2 0", () -> sinks(open));
        open.run(1);
        Check.due("what is open stays open", "2 0 2, 2 0 2", () -> sinks(open));
        // one is completed in each tick, and shown in the next one, in which another one begins
        BarrierFlow each = Flows.of("source a records 9 seed 0;every 1;sinks 2;");
        each.run(20);
        Check.due("sink 0", "k0=1\nk8=22\nk8=51\nk0=51\nk0=58\n", () -> Flows.print(each, 0));
        Check.due("sink 1", "k4=8\nk4=23\nk12=36\nk12=79\n", () -> Flows.print(each, 1));
    }

    private static String sinks(BarrierFlow flow) {
        return flow.sink(0, 0) + " " + flow.sink(0, 1) + " " + flow.sink(0, 2) + ", " + flow.sink(1, 0) + " "
                + flow.sink(1, 1) + " " + flow.sink(1, 2);
    }

    private static void lags() {
        Doc.says("section 3", "Source by source: if a checkpoint is in progress, the source has not put its barriers yet, "
                + "and at least its lag of ticks have passed since the checkpoint began,");
        for (int lag = 0; lag <= 9; lag++) {
            for (int start = 0; start <= 3; start += 3) {
                BarrierFlow flow = Flows.of("source a records 0 seed 0 lag " + lag + ";source b records 0 seed 0 lag 9;");
                int ticks = lag;
                if (start > 0) {
                    flow.run(start);
                }
                flow.begin(false);
                if (lag > 0) {
                    flow.run(lag);
                }
                Check.due("lag " + lag + ", as many ticks are over", 0, () -> flow.progress(3));
                flow.run(1);
                Check.due("lag " + lag + ", the tick behind them", ticks == 9 ? 2 : 1, () -> flow.progress(3));
            }
        }
        BarrierFlow none = Flows.of("source a records 0 seed 0;");
        none.run(9);
        Check.due("no checkpoint, no barriers", 0, () -> none.inChannel(0, 0, true));
        BarrierFlow once = Flows.of("source a records 0 seed 0;source b records 0 seed 0 lag 9;");
        once.begin(false);
        once.run(9);
        Check.due("they are put once", "0 1 1", () -> once.inChannel(0, 0, true) + " " + once.progress(3) + " "
                + once.progress(4));
    }

    private static void notedPositions() {
        Doc.says("section 3", "it notes its position (the number of records that it has sent),");
        for (int start = 1; start <= 5; start++) {
            BarrierFlow flow = Flows.of("source a records 4 seed 0;source b records 0 seed 0;source c records 1 seed 0;"
                    + "source d records 9 seed 0 lag 2;room 9;");
            int ticks = start;
            flow.run(start);
            flow.begin(true);
            flow.run(3);
            Check.due("before it sends in the tick", Math.min(ticks, 4), () -> flow.notedPosition(0));
            Check.due("without records", 0, () -> flow.notedPosition(1));
            Check.due("its only record", 1, () -> flow.notedPosition(2));
            Check.due("its lag later", ticks + 2, () -> flow.notedPosition(3));
            Check.due("it has sent more since", Math.min(ticks + 3, 9), () -> flow.source(3, 3));
        }
        BarrierFlow first = Flows.of("source a records 4 seed 0;every 9;");
        first.run(1);
        Check.due("before its first record", 0, () -> first.notedPosition(0));
        Check.due("which it sent then", 1, () -> first.source(0, 3));
    }

    private static void barriersBehindAll() {
        Doc.says("section 3", "and puts a barrier behind all that is in each of its channels.");
        BarrierFlow flow = Flows.of("source a records 9 seed 0;source b records 9 seed 0;");
        flow.run(4);
        Check.due("two records wait in each", "2 2", () -> flow.inChannel(0, 0, false) + " " + flow.inChannel(1, 0, false));
        flow.begin(false);
        flow.run(1);
        Check.due("a barrier in each", "1 1", () -> flow.inChannel(0, 0, true) + " " + flow.inChannel(1, 0, true));
        flow.run(3);
        Check.due("behind the four that were there", "8 0", () -> flow.instance(0, 1) + " " + flow.progress(4));
        flow.run(1);
        Check.due("then that of source 0", "8 1 1", () -> flow.instance(0, 1) + " " + flow.progress(4) + " "
                + flow.instance(0, 2));
        flow.run(1);
        Check.due("then that of source 1", "8 1 9", () -> flow.instance(0, 1) + " " + flow.completed(0) + " "
                + flow.completed(2));
        BarrierFlow empty = Flows.of("source a records 0 seed 0;source b records 0 seed 0 lag 1;instances 4;");
        empty.begin(false);
        empty.run(1);
        Check.due("also in empty ones", 4, () -> empty.progress(4));
        BarrierFlow full = Flows.of("source a records 50 seed 0;source b records 50 seed 0;room 1;");
        full.run(5);
        Check.due("1 of 1 in the channel of source 1", "0 1", () -> full.inChannel(0, 0, false) + " "
                + full.inChannel(1, 0, false));
        full.begin(false);
        full.run(1);
        Check.due("a barrier in a full one, too; its record is taken", "1 0 3", () -> full.inChannel(1, 0, true) + " "
                + full.inChannel(1, 0, false) + " " + full.source(1, 3));
    }

    private static void sends() {
        Doc.says("section 3", "Then, if it has a record left");
        BarrierFlow flow = Flows.of("source a records 0 seed 0;source b records 1 seed 0;source c records 200 seed 0;room 9;");
        flow.run(1);
        Check.due("none, one, one", "0 1 1", () -> flow.source(0, 3) + " " + flow.source(1, 3) + " " + flow.source(2, 3));
        flow.run(1);
        Check.due("none, none, one", "0 1 2", () -> flow.source(0, 3) + " " + flow.source(1, 3) + " " + flow.source(2, 3));
        flow.run(400);
        Check.due("all 200", "0 1 200", () -> flow.source(0, 3) + " " + flow.source(1, 3) + " " + flow.source(2, 3));
        Check.due("sent", 201, () -> flow.count(9));
        Check.due("handled", 201, () -> flow.instance(0, 1));
    }

    private static void waitsForItsChannel() {
        Doc.says("section 3", "and the channel from it to the owner of the record's group is not full, it sends the record there.");
        // record 0 (key 0) goes to instance 0, records 1 and 2 (key 4) to instance 1, which is blocked
        BarrierFlow flow = Flows.of("source a records 9 seed 0;source b records 0 seed 0 lag 9;instances 2;room 1;");
        flow.run(1);
        Check.due("record 0 was taken by instance 0", "1 0", () -> flow.instance(0, 1) + " " + flow.instance(1, 1));
        flow.begin(false);
        flow.run(6);
        Check.due("record 1 fills the channel to instance 1", 1, () -> flow.inChannel(0, 1, false));
        Check.due("record 2 waits", 2, () -> flow.source(0, 3));
        Check.due("though the other channel is empty", 0, () -> flow.inChannel(0, 0, false));
    }

    private static void overtakingArrives() {
        Doc.says("section 3", "If an overtaking checkpoint is in progress, barriers in channels to instances arrive, "
                + "instance by instance, and for each one source by source.");
        String text = "source a records 50 seed 0;source b records 50 seed 1;source c records 50 seed 2;"
                + "source d records 50 seed 3;instances 4;sinks 2;room 3;";
        BarrierFlow over = Flows.of(text);
        over.run(20);
        int waiting = over.instance(0, 3) + over.instance(1, 3) + over.instance(2, 3) + over.instance(3, 3);
        Check.due("many records wait", true, () -> waiting > 12);
        over.setLag(3, 9);
        over.begin(true);
        over.run(1);
        Check.due("all barriers of three sources arrived", "3 12", () -> over.progress(3) + " " + over.progress(4));
        Check.due("nothing is blocked", 0, () -> over.instance(0, 2) + over.instance(1, 2) + over.instance(2, 2)
                + over.instance(3, 2));
        Doc.says("section 3", "If an overtaking checkpoint is in progress, barriers in channels to sinks arrive, "
                + "sink by sink, and for each one instance by instance.");
        Check.due("all of them, in the same tick", 8, () -> over.progress(5));
        Check.due("nothing is blocked for sinks", 0, () -> over.sink(0, 3) + over.sink(1, 3));
        Doc.says("section 3", "A barrier that arrives is taken out of its channel, wherever it is.");
        for (int i = 0; i < 4; i++) {
            int instance = i;
            for (int s = 0; s < 4; s++) {
                int source = s;
                Check.due("of source " + s + " to instance " + i, 0, () -> over.inChannel(source, instance, true));
            }
            Check.due("of instance " + i, 0, () -> over.outChannel(instance, 0, true) + over.outChannel(instance, 1, true));
        }
        Check.due("records stay before where they were", true, () -> over.instance(0, 3) + over.instance(1, 3)
                + over.instance(2, 3) + over.instance(3, 3) > 12);
        BarrierFlow align = Flows.of(text);
        align.run(20);
        align.begin(false);
        align.run(1);
        Check.due("an aligning one does not overtake", true, () -> align.progress(4) < 4);
    }

    private static void handlesOne() {
        Doc.says("section 3", "Instance by instance, it handles one thing:");
        BarrierFlow flow = Flows.of("source a records 9 seed 0;source b records 9 seed 0;source c records 9 seed 1;"
                + "source d records 9 seed 1;instances 2;room 9;");
        // instance 0 has records of sources 0 and 1 in tick 1, instance 1 of sources 2 and 3
        for (int t = 1; t <= 4; t++) {
            int ticks = t;
            flow.run(1);
            Check.due("instance 0 in tick " + t, ticks, () -> flow.instance(0, 1));
            Check.due("instance 1 in tick " + t, ticks, () -> flow.instance(1, 1));
        }
        BarrierFlow barriers = Flows.of("source a records 9 seed 0;source b records 9 seed 0;");
        barriers.begin(false);
        barriers.run(1);
        Check.due("a barrier is a thing", "1 0", () -> barriers.progress(4) + " " + barriers.instance(0, 1));
        barriers.run(1);
        Check.due("another one", "0 2", () -> barriers.instance(0, 1) + " " + 2 * barriers.completed(0));
    }

    private static void goesRound() {
        Doc.says("section 3", "the first thing of the first channel that can be taken, where channels are looked at in the "
                + "order of the sources, beginning behind the source of the channel that it took from last "
                + "(at first, with source 0), going round;");
        BarrierFlow flow = Flows.of("source a records 9 seed 0;source b records 9 seed 0;source c records 9 seed 0;"
                + "source d records 9 seed 0;room 9;");
        for (int t = 0; t < 9; t++) {
            flow.run(1);
            for (int s = 0; s < 4; s++) {
                int source = s;
                Check.due("source " + s + " behind tick " + t, t / 4 + (t % 4 >= s ? 1 : 0), () -> handled(flow, source));
            }
        }
        // three records of source 3 alone, then source 0 and 3: the turn goes round over the empty ones
        BarrierFlow gaps = Flows.of("source a records 0 seed 0;source b records 9 seed 0;source c records 0 seed 0;"
                + "source d records 9 seed 0;room 9;");
        int[][] due = {{1, 0}, {1, 1}, {2, 1}, {2, 2}, {3, 2}};
        for (int[] row : due) {
            gaps.run(1);
            Check.due("source 1", row[0], () -> handled(gaps, 1));
            Check.due("source 3", row[1], () -> handled(gaps, 3));
        }
        // source 0 sends its first record to instance 1; instance 0 takes the barrier of source 1 in tick 1
        BarrierFlow barrier = Flows.of("source a records 9 seed 3 lag 9;source b records 0 seed 0;"
                + "source c records 9 seed 0 lag 9;instances 2;");
        barrier.begin(false);
        barrier.run(1);
        Check.due("a barrier of source 1 is taken", 2, () -> barrier.instance(0, 2));
        barrier.run(1);
        Check.due("behind it comes source 2, not source 0", "0 1", () -> barrier.sum(0) + " " + barrier.sum(2));
        BarrierFlow alone = Flows.of("source a records 1 seed 0;source b records 5 seed 0;");
        alone.run(6);
        Check.due("the same source again if no other has something", "1 5", () -> handled(alone, 0) + " "
                + handled(alone, 1));
    }

    private static void whatArrivesIsNotTaken() {
        Doc.says("section 3", "what arrives in the phases d and f is not taken.");
        BarrierFlow flow = Flows.of("source a records 9 seed 0;source b records 9 seed 0;");
        flow.run(1);
        flow.begin(true);
        flow.run(1);
        Check.due("the barriers arrived", 1, () -> flow.completed(0));
        Check.due("the instance handled a record, too", 2, () -> flow.instance(0, 1));
        Check.due("that of source 1, behind source 0 from which it took last", 1, () -> flow.sum(1));
        // the sink took from instance 0 last; barriers of both instances arrive, then it takes from instance 1
        BarrierFlow sink = Flows.of("source a records 9 seed 0;source b records 9 seed 1;instances 2;");
        sink.run(1);
        Check.due("one of instance 1 waits", "0 1", () -> sink.outChannel(0, 0, false) + " " + sink.outChannel(1, 0, false));
        sink.begin(true);
        sink.run(1);
        Check.due("it is taken then, those of tick 2 wait", "1 1", () -> sink.outChannel(0, 0, false) + " "
                + sink.outChannel(1, 0, false));
        Check.due("key 5 is open, key 0 was closed", "1 1", () -> sink.sink(0, 0) + " " + sink.sink(0, 1));
    }

    private static void cannotBeTaken() {
        Doc.says("section 3", "A channel cannot be taken if it is empty, if it is blocked,");
        BarrierFlow empty = Flows.of("source a records 0 seed 0;source b records 0 seed 0;source c records 1 seed 0;");
        empty.run(1);
        Check.due("sources 0 and 1 are empty", 1, () -> empty.sum(2));
        empty.run(9);
        Check.due("all are empty", "1 1", () -> empty.sum(2) + " " + empty.instance(0, 1));
        BarrierFlow blocked = Flows.of("source a records 9 seed 0;source b records 9 seed 0 lag 5;");
        blocked.begin(false);
        blocked.run(5);
        Check.due("source 0 is blocked with records", "1 4", () -> blocked.instance(0, 2) + " "
                + blocked.inChannel(0, 0, false));
        Check.due("source 1 is taken instead", "0 4", () -> handled(blocked, 0) + " " + handled(blocked, 1));
        BarrierFlow only = Flows.of("source a records 9 seed 0;source b records 0 seed 0 lag 9;");
        only.begin(false);
        only.run(9);
        Check.due("no other channel has something", 0, () -> only.instance(0, 1));
    }

    /*
     * Three instances; instance 1 has groups 3 to 5: keys 4, 12, 5, 13 for sink 1, keys 3 and 11 for sink 0.
     * In tick 4 its result of key 12 waits, as sink 1 takes from instance 2; in tick 5 it has a record with key 5
     * of source 1, whose turn it is, and one with key 11 of source 3.
     */
    private static void sinkIsFull() {
        Doc.says("section 3", "or if its first thing is a record and the channel from the instance to the sink of its key is full.");
        String text = "source a records 20 seed 1;source b records 20 seed 0;source c records 0 seed 0;"
                + "source d records 20 seed 0;instances 3;sinks 2;room ";
        BarrierFlow flow = Flows.of(text + "1;");
        flow.run(4);
        Check.due("the way to sink 1 is full, that to sink 0 is not", "0 1", () -> flow.outChannel(1, 0, false) + " "
                + flow.outChannel(1, 1, false));
        Check.due("records of sources 1 and 3 wait", "0 1 1", () -> flow.inChannel(0, 1, false) + " "
                + flow.inChannel(1, 1, false) + " " + flow.inChannel(3, 1, false));
        Check.due("keys 12, 5 and 11", "23 8 0", () -> flow.sum(12) + " " + flow.sum(5) + " " + flow.sum(11));
        flow.run(1);
        Check.due("key 5 cannot be taken, key 11 can", "8 22", () -> flow.sum(5) + " " + flow.sum(11));
        Check.due("the record of key 5 waits", 1, () -> flow.inChannel(1, 1, false));
    }

    private static void barrierBeforeFullWay() {
        // instance 1 has a result in a room of 1; its channels hold barriers, which it takes all the same
        BarrierFlow flow = Flows.of("source a records 9 seed 0;source b records 9 seed 1;instances 2;room 1;");
        flow.run(1);
        Check.due("the way of instance 1 is full", 1, () -> flow.outChannel(1, 0, false));
        flow.begin(false);
        flow.run(1);
        Check.due("the barrier of source 0 arrived at instance 1", 1, () -> flow.instance(1, 2));
        Doc.says("section 3", "A barrier arrives.");
        Check.due("at both instances", 2, () -> flow.progress(4));
        Check.due("it is no record", "1 1", () -> flow.instance(0, 1) + " " + flow.instance(1, 1));
        Check.due("and out of the channel", 0, () -> flow.inChannel(0, 1, true));
    }

    private static void adds() {
        Doc.says("section 3", "A record adds its value to the sum of its key, and the new sum goes as a result, with the key, "
                + "into the channel to the sink of the key.");
        BarrierFlow flow = Flows.of("source a records 3 seed 0;sinks 2;");
        int[][] sums = {{1, 0}, {1, 8}, {1, 23}, {1, 23}};
        for (int[] row : sums) {
            flow.run(1);
            Check.due("key 0", row[0], () -> flow.sum(0));
            Check.due("key 4", row[1], () -> flow.sum(4));
        }
        flow.begin(false);
        flow.run(3);
        Check.due("to sink 0", "k0=1\n", () -> Flows.print(flow, 0));
        Check.due("to sink 1, the new sums", "k4=8\nk4=23\n", () -> Flows.print(flow, 1));
        BarrierFlow most = Flows.of("source a records 200 seed 0;");
        most.run(200);
        int all = 0;
        for (int i = 0; i < 200; i++) {
            all += most.record(0, i, 1);
        }
        int due = all;
        Check.due("all 200", due, () -> most.sum(0) + most.sum(4) + most.sum(8) + most.sum(12));
    }

    private static void sinksTakeInTurn() {
        Doc.says("section 3", "Sink by sink, it handles one thing, in the same manner as an instance;");
        // each instance handles a record in each of the first ticks, the sink takes one result
        BarrierFlow flow = Flows.of("source a records 40 seed 0;source b records 40 seed 1;source c records 40 seed 2;"
                + "source d records 40 seed 3;instances 4;room 9;");
        int[] taken = new int[4];
        for (int t = 1; t <= 8; t++) {
            flow.run(1);
            for (int i = 0; i < 4; i++) {
                taken[i] = flow.instance(i, 1) - flow.outChannel(i, 0, false);
            }
            int ticks = t;
            Check.due("one in a tick", ticks, () -> flow.sink(0, 0));
            Check.due("no instance is left behind", true, () -> Math.abs(taken[0] - taken[3]) <= 1 || ticks < 4);
        }
        // both sinks have something to take in each tick
        BarrierFlow two = Flows.of("source a records 9 seed 0;source b records 9 seed 1;instances 2;sinks 2;");
        for (int t = 1; t <= 4; t++) {
            int ticks = t;
            two.run(1);
            Check.due("each sink one", ticks + " " + ticks, () -> two.sink(0, 0) + " " + two.sink(1, 0));
        }
        BarrierFlow order = Flows.of("source a records 2 seed 0;source b records 2 seed 1;instances 2;");
        order.run(4);
        order.begin(false);
        order.run(4);
        Doc.says("section 3", "A result comes behind the open results of the sink.");
        // keys 0 and 5 in tick 1, keys 9 and 4 in tick 2: instances 0, 1, 0, 1
        Check.due("in the order in which they were taken", "k0=1\nk5=2\nk9=9\nk4=8\n", () -> Flows.print(order, 0));
    }

    private static void nothingIsFullForSinks() {
        Doc.says("section 3", "nothing is full for a sink.");
        BarrierFlow flow = Flows.of("source a records 200 seed 0;source b records 200 seed 0;source c records 200 seed 0;"
                + "source d records 200 seed 0;room 1;");
        flow.run(500);
        flow.run(301);
        Check.due("800 open results with a room of 1", 800, () -> flow.sink(0, 0));
        flow.begin(false);
        flow.run(9);
        Check.due("800 that it shows", 800, () -> flow.sink(0, 2));
        // a result for each sink is kept, and comes from instance 0 then
        BarrierFlow both = EdgesOfFailures.resultsForBoth();
        both.rescale(1);
        both.setRoom(1);
        both.run(1);
        Check.due("full ways stop the instance, not the sinks", "0 1 0 1 0", () -> both.instance(0, 1) + " "
                + both.sink(0, 0) + " " + both.outChannel(0, 0, false) + " " + both.sink(1, 0) + " "
                + both.outChannel(0, 1, false));
    }

    private static void completes() {
        Doc.says("section 3", "If a checkpoint is in progress, all sources have put their barriers, "
                + "and all barriers have arrived at all instances and sinks, it is completed.");
        BarrierFlow lag = Flows.of("source a records 0 seed 0;source b records 0 seed 0 lag 3;");
        lag.begin(true);
        lag.run(3);
        Check.due("a source has not put its barriers", "1 1 1 0", () -> lag.progress(3) + " " + lag.progress(4) + " "
                + lag.progress(5) + " " + lag.count(7));
        lag.run(1);
        Check.due("now it has", 1, () -> lag.completed(0));
        BarrierFlow instances = Flows.of("source a records 0 seed 0;source b records 0 seed 0;source c records 0 seed 0;");
        instances.begin(false);
        instances.run(2);
        Check.due("one has not arrived at the instance", "3 2 0", () -> instances.progress(3) + " " + instances.progress(4)
                + " " + instances.count(7));
        instances.run(1);
        Check.due("now it has, too", 1, () -> instances.completed(0));
        BarrierFlow sinks = Flows.of("source a records 0 seed 0;instances 4;sinks 2;");
        sinks.begin(false);
        sinks.run(3);
        Check.due("one has not arrived at each sink", "1 4 6", () -> sinks.progress(3) + " " + sinks.progress(4) + " "
                + sinks.progress(5));
        sinks.run(1);
        Check.due("now they have", 1, () -> sinks.completed(0));
        Check.due("none is in progress then", -1, () -> sinks.progress(0));
        Doc.says("section 3", "Then the time grows by 1.");
        Check.due("completed in the tick of time 3", "3 4", () -> sinks.completed(2) + " " + sinks.count(5));
        BarrierFlow least = Flows.of("source a records 0 seed 0;");
        least.begin(true);
        least.run(1);
        Check.due("completed in the tick in which it began", "0 0 1", () -> least.completed(1) + " " + least.completed(2)
                + " " + least.count(5));
    }
}
