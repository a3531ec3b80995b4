/** The boundary cases of section 4: barriers that align and that overtake. */
final class EdgesOfBarriers {
    // in each tick, each of the two instances gets one record and handles it, and the sink takes one result
    private static final String PAIR = "source a records 40 seed 0;source b records 40 seed 1;instances 2;room 9;";

    private EdgesOfBarriers() {
    }

    static void all() {
        blocks();
        notesAtTheLast();
        notesItsOwn();
        barrierBehindResults();
        notesAtTheFirst();
        closesAtTheFirst();
        keepsOnce();
        keepsResults();
        keepsWhatIsTaken();
        keepsNothingOfOthers();
        keepsNothingBefore();
        keepsNothingBehind();
    }

    private static String text(int lagging) {
        StringBuilder text = new StringBuilder();
        for (int s = 0; s < 4; s++) {
            text.append("source ").append((char) ('a' + s)).append(" records 9 seed 0 lag ").append(s == lagging ? 9 : 0)
                    .append(';');
        }
        return text.toString();
    }

    private static void blocks() {
        Doc.says("section 4", "If a barrier of an aligning checkpoint arrives at an instance or a sink, its channel is blocked.");
        for (int lagging = 0; lagging < 4; lagging++) {
            BarrierFlow flow = Flows.of(text(lagging));
            flow.begin(false);
            // a tick for each source: its barrier, or a record of the one that puts none
            for (int t = 1; t <= 4; t++) {
                int due = (1 << t) - 1 & ~(1 << lagging);
                flow.run(1);
                Check.due("without source " + lagging + " behind tick " + t, due, () -> flow.instance(0, 2));
            }
        }
        BarrierFlow sink = Flows.of("source a records 0 seed 0;instances 4;");
        sink.begin(false);
        for (int due : new int[] {1, 3, 7, 0}) {
            sink.run(1);
            Check.due("the sink blocks", due, () -> sink.sink(0, 3));
        }
        // the first records of four sources go to instance 1, whose barriers come later therefore
        BarrierFlow late = Flows.of("source a records 9 seed 1;source b records 9 seed 1;source c records 9 seed 1;"
                + "source d records 9 seed 1;instances 2;");
        late.run(1);
        late.begin(false);
        late.run(4);
        Check.due("the barrier of instance 0 arrived at the sink", "1 4", () -> late.sink(0, 3) + " " + late.sink(0, 0));
        for (int n = 1; n <= 2; n++) {
            int waiting = n;
            late.run(1);
            Check.due("results behind it are not taken", waiting + " 4", () -> late.outChannel(0, 0, false) + " "
                    + late.sink(0, 0));
        }
        late.run(1);
        Check.due("until that of instance 1 arrives", "0 0 4 1", () -> late.sink(0, 3) + " " + late.sink(0, 0) + " "
                + late.sink(0, 1) + " " + late.completed(0));
        BarrierFlow one = Flows.of("source a records 9 seed 0;");
        one.begin(false);
        one.run(1);
        Check.due("the only channel is not blocked for long", "0 0 1", () -> one.instance(0, 2) + " " + one.sink(0, 3)
                + " " + one.completed(0));
    }

    private static void notesAtTheLast() {
        Doc.says("section 4", "When barriers have arrived from all channels, an instance notes the sums");
        BarrierFlow flow = Flows.of("source a records 9 seed 0;source b records 9 seed 0 lag 3;");
        flow.begin(false);
        flow.run(4);
        Check.due("records 0 to 2 of source 1 were handled, none of source 0", "0 1 23", () -> flow.sum(0) + " "
                + flow.sum(1) + " " + flow.sum(5));
        Check.due("its barrier stands behind them", "1 1", () -> flow.inChannel(1, 0, true) + " " + flow.progress(4));
        Check.due("none was put for the sink", "0 0", () -> flow.outChannel(0, 0, true) + " " + flow.progress(5));
        flow.run(1);
        Check.due("all arrived", "1 4", () -> flow.completed(0) + " " + flow.completed(2));
        Check.due("what was handled between the barriers is noted", "0 1 23", () -> flow.notedSum(0) + " "
                + flow.notedSum(1) + " " + flow.notedSum(5));
        Check.due("the positions", "0 3", () -> flow.notedPosition(0) + " " + flow.notedPosition(1));
        Check.due("and its results are closed", 3, () -> flow.sink(0, 1));
        Check.due("nothing is blocked", 0, () -> flow.instance(0, 2));
    }

    // instance 0 has all barriers in tick 3 and handles key 8 in tick 4, when the last one comes to instance 1
    private static void notesItsOwn() {
        Doc.says("section 4", "of the keys whose groups it owns,");
        BarrierFlow flow = Flows.of("source a records 9 seed 1;source b records 9 seed 1;instances 2;");
        flow.run(1);
        flow.begin(false);
        flow.run(2);
        Check.due("instance 0 has all its barriers, instance 1 has one", "3 0 1", () -> flow.progress(4) + " "
                + flow.instance(0, 2) + " " + flow.instance(1, 2));
        flow.run(1);
        Check.due("completed in tick 4", "1 3", () -> flow.completed(0) + " " + flow.completed(2));
        Check.due("key 8 of instance 0 has a sum", 9, () -> flow.sum(8));
        Check.due("it was noted before", 0, () -> flow.notedSum(8));
        Check.due("keys 4 and 5 of instance 1", "2 2", () -> flow.notedSum(4) + " " + flow.notedSum(5));
    }

    private static void barrierBehindResults() {
        Doc.says("section 4", "puts a barrier behind all that is in each of its channels to the sinks,");
        BarrierFlow flow = Flows.of(PAIR);
        flow.run(4);
        flow.begin(false);
        flow.run(2);
        Check.due("all barriers arrived at the instances", "4 8", () -> flow.progress(4) + " "
                + (flow.instance(0, 1) + flow.instance(1, 1)));
        for (int i = 0; i < 2; i++) {
            int instance = i;
            Check.due("a result and the barrier", "1 1", () -> flow.outChannel(instance, 0, false) + " "
                    + flow.outChannel(instance, 0, true));
        }
        flow.run(2);
        Check.due("the sink takes the results first", "8 0", () -> flow.sink(0, 0) + " " + flow.progress(5));
        Doc.says("section 4", "and no channel of it is blocked any more;");
        Check.due("instances", "0 0", () -> flow.instance(0, 2) + " " + flow.instance(1, 2));
        Check.due("that handle records again", 12, () -> flow.instance(0, 1) + flow.instance(1, 1));
        flow.run(1);
        Check.due("the barrier of instance 0 arrived", "1 1", () -> flow.progress(5) + " " + flow.sink(0, 3));
        Doc.says("section 4", "a sink closes its open results (they are closed for this checkpoint, and it has no open ones then),"
                + " and no channel of it is blocked any more.");
        Check.due("not before the last barrier", "8 0", () -> flow.sink(0, 0) + " " + flow.sink(0, 1));
        flow.run(1);
        Check.due("the eight results before the barriers", "0 8", () -> flow.sink(0, 0) + " " + flow.sink(0, 1));
        Check.due("nothing is blocked", 0, () -> flow.sink(0, 3));
        Check.due("completed in the tick of time 9", 9, () -> flow.completed(2));
        flow.run(1);
        Check.due("one that stood behind a barrier is open", "1 0 8", () -> flow.sink(0, 0) + " " + flow.sink(0, 1) + " "
                + flow.sink(0, 2));
    }

    private static void notesAtTheFirst() {
        Doc.says("section 4", "If the first barrier of an overtaking checkpoint arrives at an instance, it notes the sums of its keys,"
                + " and puts a barrier behind all that is in each of its channels to the sinks;");
        BarrierFlow flow = Flows.of("source a records 0 seed 0;source b records 9 seed 0 lag 3;sinks 2;");
        flow.begin(true);
        flow.run(1);
        Check.due("the first barrier arrived, and one at each sink", "1 1 2", () -> flow.progress(3) + " "
                + flow.progress(4) + " " + flow.progress(5));
        Check.due("record 0 of source 1 was handled behind it", 1, () -> flow.sum(1));
        flow.run(2);
        Check.due("no more at the sinks", 2, () -> flow.progress(5));
        flow.run(1);
        Check.due("completed", "1 3", () -> flow.completed(0) + " " + flow.completed(2));
        Check.due("key 1 was noted before", "0 0", () -> flow.notedSum(1) + " " + flow.notedSum(5));
        Check.due("the second barrier puts none", "0 0", () -> flow.outChannel(0, 0, true) + " "
                + flow.outChannel(0, 1, true));
        Check.due("its sums", "1 23 22", () -> flow.sum(1) + " " + flow.sum(5) + " " + flow.sum(9));
    }

    private static void closesAtTheFirst() {
        Doc.says("section 4", "a sink closes its open results then.");
        BarrierFlow flow = Flows.of("source a records 9 seed 0;source b records 0 seed 0 lag 3;");
        flow.run(2);
        Check.due("two are open", 2, () -> flow.sink(0, 0));
        flow.begin(true);
        flow.run(1);
        Check.due("they are closed, one came behind the barrier", "1 2", () -> flow.sink(0, 0) + " " + flow.sink(0, 1));
        Check.due("the checkpoint is in progress", 1, () -> flow.progress(0));
        flow.run(2);
        Check.due("no more are closed", "3 2 0", () -> flow.sink(0, 0) + " " + flow.sink(0, 1) + " " + flow.sink(0, 2));
        flow.run(1);
        Check.due("nor when the last barrier arrives", "4 2 1", () -> flow.sink(0, 0) + " " + flow.sink(0, 1) + " "
                + flow.completed(0));
        flow.run(1);
        Check.due("the two are shown", "5 0 2", () -> flow.sink(0, 0) + " " + flow.sink(0, 1) + " " + flow.sink(0, 2));
        BarrierFlow none = Flows.of("source a records 0 seed 0;");
        none.begin(true);
        none.run(1);
        Check.due("none is open, none is closed", "0 0 1", () -> none.sink(0, 0) + " " + none.sink(0, 1) + " "
                + none.completed(0));
    }

    /*
     * Sources 1 and 2 send a record in each tick, of which the instance takes one in turn. Their barriers come in
     * tick 3, when one record of each was taken behind the barrier of source 0, and one of each waits.
     */
    private static void keepsOnce() {
        Doc.says("section 4", "Whenever a barrier arrives in a channel, the records (results) that stood before the barrier are kept");
        BarrierFlow flow = Flows.of("source a records 0 seed 0;source b records 9 seed 1 lag 2;"
                + "source c records 9 seed 1 lag 2;source d records 0 seed 0 lag 9;room 9;");
        flow.begin(true);
        int[] kept = {1, 2, 4};
        for (int t = 0; t < 3; t++) {
            int due = kept[t];
            flow.run(1);
            Check.due("kept behind tick " + (t + 1), due, () -> flow.progress(6));
        }
        Doc.says("section 4", "(they also stay in the channel, and are not kept once more when they are taken);");
        Check.due("of source 1 one was taken in tick 3", "1 2", () -> flow.inChannel(1, 0, false) + " "
                + flow.inChannel(2, 0, false));
        flow.run(2);
        Check.due("all that was kept has been taken", 9, () -> flow.sum(10));
        Check.due("and not once more", 4, () -> flow.progress(6));
        flow.run(5);
        Check.due("completed", "1 4", () -> flow.completed(0) + " " + flow.completed(4));
        Doc.says("section 4", "and what had been kept of this channel before stays kept, ahead of them.");
        flow.fail();
        Check.due("two of each are there", "2 2", () -> flow.inChannel(1, 0, false) + " " + flow.inChannel(2, 0, false));
        int[][] sums = {{2, 0, 0, 0}, {2, 2, 0, 0}, {2, 2, 9, 0}, {2, 2, 9, 9}};
        for (int[] row : sums) {
            flow.run(1);
            Check.due("key 5, taken first", row[0], () -> flow.sum(5));
            Check.due("key 6, taken first", row[1], () -> flow.sum(6));
            Check.due("key 9, that stood before the barrier", row[2], () -> flow.sum(9));
            Check.due("key 10, that stood before the barrier", row[3], () -> flow.sum(10));
        }
    }

    private static void keepsResults() {
        Doc.says("section 4", "the records (results) that stood before the barrier are kept");
        BarrierFlow flow = Flows.of(PAIR);
        flow.run(4);
        flow.begin(true);
        flow.run(1);
        Check.due("two results of each way", "1 4", () -> flow.completed(0) + " " + flow.completed(4));
        Check.due("they stay, one was taken, one of each came behind the barrier", "2 3", () ->
                flow.outChannel(0, 0, false) + " " + flow.outChannel(1, 0, false));
        Check.due("the four that were open are closed", "1 4", () -> flow.sink(0, 0) + " " + flow.sink(0, 1));
        flow.fail();
        Check.due("two of each are there again", "2 2", () -> flow.outChannel(0, 0, false) + " "
                + flow.outChannel(1, 0, false));
        flow.run(4);
        flow.begin(false);
        flow.run(20);
        // the results of ticks 1 to 4: keys 0 and 5, 9 and 4, 9 and 4, 8 and 13; instances 0 and 1 in turn
        Check.due("in their order", "k0=1\nk5=2\nk9=9\nk4=8\nk9=25\nk4=23\nk8=22\nk13=23\n", () -> {
            String text = Flows.print(flow, 0);
            int end = 0;
            for (int n = 0; n < 8; n++) {
                end = text.indexOf('\n', end) + 1;
            }
            return text.substring(0, end);
        });
    }

    private static void keepsWhatIsTaken() {
        Doc.says("section 4", "For each channel of this instance or sink in which no barrier has arrived yet, what is taken from it "
                + "behind the first barrier's arrival is kept, too, in the order in which it is taken.");
        BarrierFlow flow = Flows.of("source a records 0 seed 0;source b records 9 seed 1 lag 5;room 1;");
        flow.run(1);
        flow.begin(true);
        for (int t = 1; t <= 5; t++) {
            int ticks = t;
            flow.run(1);
            Check.due("each tick one more", ticks, () -> flow.progress(6));
        }
        flow.run(1);
        Check.due("not the one that came behind the barrier", "1 5", () -> flow.completed(0) + " " + flow.completed(4));
        Check.due("not the one of tick 1, before the checkpoint began", 6, () -> flow.notedPosition(1));
        flow.fail();
        Check.due("five in a room of 1", 5, () -> flow.inChannel(1, 0, false));
        // records 1 to 5: keys 9, 9, 13, 13, 1 with values 9, 16, 23, 30, 37
        int[][] sums = {{9, 0, 0}, {25, 0, 0}, {25, 23, 0}, {25, 53, 0}, {25, 53, 37}};
        for (int[] row : sums) {
            flow.run(1);
            Check.due("key 9", row[0], () -> flow.sum(9));
            Check.due("key 13", row[1], () -> flow.sum(13));
            Check.due("key 1", row[2], () -> flow.sum(1));
        }
        Check.due("key 5 was noted", 2, () -> flow.sum(5));
    }

    // the records of source 0 are kept while it has a lag, and none of them when it has none
    private static void keepsNothingOfOthers() {
        Doc.says("section 4", "and what had been kept of this channel before stays kept");
        BarrierFlow flow = Flows.of("source a records 99 seed 0 lag 2;source b records 0 seed 0;room 1;");
        int[] lags = {2, 0, 0, 2, 2, 0};
        for (int n = 0; n < lags.length; n++) {
            int lag = lags[n];
            flow.setLag(0, lag);
            flow.begin(true);
            flow.run(lag + 1);
            int number = n + 1;
            Check.due("checkpoint " + number + " keeps its own", number + " " + lag, () -> flow.completed(0) + " "
                    + flow.completed(4));
            flow.fail();
            Check.due("which are there again", lag, () -> flow.inChannel(0, 0, false));
            flow.run(3);
            Check.due("and are taken", 0, () -> flow.inChannel(0, 0, false));
        }
        flow.setLag(0, 2);
        flow.begin(true);
        flow.run(2);
        Check.due("one in progress", 2, () -> flow.progress(6));
        flow.fail();
        flow.setLag(0, 0);
        flow.begin(true);
        Check.due("the next one begins with nothing", 0, () -> flow.progress(6));
        flow.run(1);
        Check.due("and keeps nothing", "8 0", () -> flow.completed(0) + " " + flow.completed(4));
        flow.fail();
        Check.due("nothing of the one that ended", 0, () -> flow.inChannel(0, 0, false));
    }

    // both sources have a lag: what is taken before the first barrier comes is in the sums that are noted
    private static void keepsNothingBefore() {
        Doc.says("section 4", "behind the first barrier's arrival is kept, too,");
        BarrierFlow flow = Flows.of("source a records 0 seed 0 lag 2;source b records 9 seed 0 lag 4;");
        flow.begin(true);
        int[] kept = {0, 0, 1, 2};
        for (int t = 0; t < 4; t++) {
            int due = kept[t];
            flow.run(1);
            Check.due("kept behind tick " + (t + 1), due, () -> flow.progress(6));
        }
        flow.run(1);
        Check.due("records 2 and 3", "1 2", () -> flow.completed(0) + " " + flow.completed(4));
        Check.due("records 0 and 1 are noted", "1 8 0", () -> flow.notedSum(1) + " " + flow.notedSum(5) + " "
                + flow.notedSum(9));
        flow.fail();
        Check.due("two are there", 2, () -> flow.inChannel(1, 0, false));
        flow.run(2);
        Check.due("and are handled", "1 23 22", () -> flow.sum(1) + " " + flow.sum(5) + " " + flow.sum(9));
    }

    private static void keepsNothingBehind() {
        Doc.says("section 4", "in which no barrier has arrived yet");
        BarrierFlow flow = Flows.of("source a records 9 seed 0;source b records 0 seed 0 lag 5;");
        flow.begin(true);
        flow.run(5);
        Check.due("what comes behind the barrier of source 0 is not kept", "5 0", () -> flow.instance(0, 1) + " "
                + flow.progress(6));
        flow.run(1);
        Check.due("nor in the end", "1 0", () -> flow.completed(0) + " " + flow.completed(4));
        BarrierFlow align = Flows.of("source a records 9 seed 0;source b records 9 seed 0 lag 5;");
        align.begin(false);
        align.run(5);
        Check.due("an aligning one keeps nothing", "4 0", () -> align.instance(0, 1) + " " + align.progress(6));
        align.run(9);
        Check.due("nor in the end of it", "1 0", () -> align.completed(0) + " " + align.completed(4));
    }
}
