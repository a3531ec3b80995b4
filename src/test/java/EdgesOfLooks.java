/** The boundary cases of promises 7 and 9 to 27: what there is, checkpoints, accounts. */
final class EdgesOfLooks {
    private static final int LEAST = Integer.MIN_VALUE;
    private static final int MOST = Integer.MAX_VALUE;
    private static final String FOUR = "source a records 9 seed 0;source b records 9 seed 1;source c records 9 seed 2;"
            + "source d records 9 seed 3;instances 3;sinks 2;";

    private EdgesOfLooks() {
    }

    static void all() {
        count();
        source();
        record();
        ownerAndSum();
        instance();
        sink();
        shown();
        inChannel();
        outChannel();
        progress();
        completed();
        noted();
        shownOf();
        expected();
        atRisk();
        repeated();
        skew();
        fullest();
    }

    private interface OfNumber {
        Object answer(int number);
    }

    private static void outsideOf(String what, int least, int most, OfNumber call) {
        for (int wrong : new int[] {least - 1, most + 1, LEAST, MOST}) {
            Check.outside(what + " " + wrong, () -> call.answer(wrong));
        }
        inside(what, least, most, call);
    }

    private static void illegalBeyond(String what, int least, int most, OfNumber call) {
        for (int wrong : new int[] {least - 1, most + 1, LEAST, MOST}) {
            Check.illegal(what + " " + wrong, () -> call.answer(wrong));
        }
        inside(what, least, most, call);
    }

    private static void inside(String what, int least, int most, OfNumber call) {
        for (int number : new int[] {least, most}) {
            Check.due(what + " " + number + " is fine", false, () -> call.answer(number) == null);
        }
    }

    private static void count() {
        Doc.says("promise 7", "0 sources, 1 instances, 2 sinks, 3 the room, 4 every, 5 the time, 6 checkpoints that began, "
                + "7 those that were completed, 8 failures (rescalings, too), 9 records that were sent, those that were sent "
                + "again counted again, 10 changes that can be undone, 11 whether checkpoints that begin by themselves "
                + "overtake (1 or 0)");
        BarrierFlow flow = Flows.of("source a records 9 seed 0;source b records 0 seed 0;source c records 0 seed 0;"
                + "instances 2;sinks 2;room 9;every 25;overtake;");
        flow.run(3);
        flow.fail();
        flow.run(27);
        flow.begin(false);
        flow.rescale(1);
        flow.rescale(4);
        // at times 0 and 25 checkpoints began and were completed; 3 records were sent, then all 9
        int[] counts = {3, 4, 2, 9, 25, 30, 3, 2, 3, 12, 6, 1};
        for (int w = 0; w < counts.length; w++) {
            int what = w;
            Check.due("count " + w, counts[w], () -> flow.count(what));
        }
        flow.setEvery(1, false);
        Check.due("they align", 0, () -> flow.count(11));
        Check.due("no more than 6 can be undone", 6, () -> flow.count(10));
        Doc.says("promise 7", "NONE for another what.");
        for (int wrong : new int[] {-1, 12, LEAST, MOST}) {
            Check.due("count " + wrong, -1, () -> flow.count(wrong));
        }
    }

    private static void source() {
        Doc.says("promise 9", "0 its records, 1 its seed, 2 its lag, 3 its position");
        BarrierFlow flow = Flows.of("source a records 200 seed 999 lag 9;source b records 1 seed 0;");
        flow.run(3);
        Check.due("the most", "200 999 9 3", () -> flow.source(0, 0) + " " + flow.source(0, 1) + " " + flow.source(0, 2)
                + " " + flow.source(0, 3));
        Check.due("the least", "1 0 0 1", () -> flow.source(1, 0) + " " + flow.source(1, 1) + " " + flow.source(1, 2)
                + " " + flow.source(1, 3));
        flow.setLag(1, 9);
        Check.due("the lag that was set", 9, () -> flow.source(1, 2));
        Doc.says("promise 9", "Throws `IndexOutOfBoundsException` if there is no such source or property");
        outsideOf("source", 0, 1, n -> flow.source(n, 0));
        outsideOf("property", 0, 3, n -> flow.source(1, n));
        BarrierFlow four = Flows.of(FOUR);
        outsideOf("source", 0, 3, n -> four.source(n, 3));
        outsideOf("source of a new flow", 0, 0, n -> new BarrierFlow().source(n, 0));
    }

    private static void record() {
        Doc.says("promise 10", "Returns a property of a record of a source, sent or not.");
        BarrierFlow flow = Flows.of("source a records 3 seed 0;source b records 200 seed 0;");
        Check.due("not sent", "4 15", () -> flow.record(0, 2, 0) + " " + flow.record(0, 2, 1));
        flow.run(9);
        Check.due("sent", "4 15", () -> flow.record(0, 2, 0) + " " + flow.record(0, 2, 1));
        Doc.says("promise 10", "0 its key, 1 its value");
        Check.due("the first", "0 1", () -> flow.record(0, 0, 0) + " " + flow.record(0, 0, 1));
        Check.due("the last", "1 44", () -> flow.record(1, 199, 0) + " " + flow.record(1, 199, 1));
        Doc.says("promise 10", "Throws `IndexOutOfBoundsException` if there is no such source, record or property");
        outsideOf("record", 0, 2, n -> flow.record(0, n, 0));
        outsideOf("record", 0, 199, n -> flow.record(1, n, 1));
        outsideOf("source", 0, 1, n -> flow.record(n, 0, 0));
        outsideOf("property", 0, 1, n -> flow.record(0, 0, n));
        Check.outside("the first of none", () -> new BarrierFlow().record(0, 0, 0));
        Check.outside("one of another source", () -> flow.record(0, 200, 0));
    }

    private static void ownerAndSum() {
        BarrierFlow flow = Flows.of(FOUR);
        flow.run(3);
        Doc.says("promise 11", "0 to 15");
        Check.due("key 0", 0, () -> flow.owner(0));
        Check.due("key 15, of group 7", 2, () -> flow.owner(15));
        Doc.says("promise 11", "Throws `IllegalArgumentException` if key is out of range");
        illegalBeyond("key", 0, 15, flow::owner);
        Doc.says("promise 12", "0 to 15");
        Check.due("key 0", 1, () -> flow.sum(0));
        Check.due("key 15, of which the first value is 4", 4, () -> flow.sum(15));
        Check.due("key 8, of which nothing came", 0, () -> flow.sum(8));
        Check.due("without such a source", 0, () -> new BarrierFlow().sum(15));
        Doc.says("promise 12", "Throws `IllegalArgumentException` if key is out of range");
        illegalBeyond("key", 0, 15, flow::sum);
    }

    private static void instance() {
        Doc.says("promise 13", "0 its groups, 1 the records that it has handled since the latest failure, 2 its blocked channels, "
                + "as a bit mask of sources, 3 records in all channels to it, 4 results in all channels from it");
        BarrierFlow groups = Flows.of(FOUR);
        Check.due("3, 3 and 2 groups", "3 3 2", () -> groups.instance(0, 0) + " " + groups.instance(1, 0) + " "
                + groups.instance(2, 0));
        BarrierFlow flow = Flows.of("source a records 9 seed 0 lag 9;source b records 9 seed 0;source c records 9 seed 0;"
                + "source d records 9 seed 0;");
        flow.begin(false);
        flow.run(4);
        Check.due("all, one handled, sources 1 to 3 blocked, 3 and 12 records wait", "8 1 14 15 0", () -> flow.instance(0, 0)
                + " " + flow.instance(0, 1) + " " + flow.instance(0, 2) + " " + flow.instance(0, 3) + " "
                + flow.instance(0, 4));
        flow.run(5);
        int handled = flow.instance(0, 1);
        flow.fail();
        Check.due("some were handled, none since", "true 0", () -> (handled > 1) + " " + flow.instance(0, 1));
        flow.run(2);
        Check.due("since then", 2, () -> flow.instance(0, 1));
        flow.rescale(1);
        Check.due("a rescaling is a failure", 0, () -> flow.instance(0, 1));
        BarrierFlow ways = eachOne();
        ways.run(3);
        Check.due("nine results, of which the sink took three", "2 2 2 3", () -> ofInstances(ways, 4));
        Check.due("no record waits", "0 0 0 0", () -> ofInstances(ways, 3));
        BarrierFlow waits = eachOne();
        waits.begin(false);
        for (int t = 1; t <= 4; t++) {
            int many = t;
            waits.run(1);
            Check.due("a barrier is taken, a record waits", (many + " ").repeat(4).trim(), () -> ofInstances(waits, 3));
            Check.due("no result does", "0 0 0 0", () -> ofInstances(waits, 4));
        }
        BarrierFlow both = EdgesOfFailures.resultsForBoth();
        Check.due("behind the barriers, while others are open", "1 1 0 0", () -> ofInstances(both, 4));
        both.rescale(1);
        Check.due("results to both sinks", 2, () -> both.instance(0, 4));
        BarrierFlow barriers = Flows.of("source a records 0 seed 0;source b records 0 seed 0;instances 4;");
        barriers.begin(false);
        barriers.run(1);
        Check.due("a barrier is no record", "1 0", () -> barriers.inChannel(1, 3, true) + " " + barriers.instance(3, 3));
        barriers.run(1);
        Check.due("a barrier is no result", "1 0", () -> barriers.outChannel(3, 0, true) + " " + barriers.instance(3, 4));
        Doc.says("promise 13", "Throws `IndexOutOfBoundsException` if there is no such instance or property");
        outsideOf("instance", 0, 2, n -> groups.instance(n, 0));
        outsideOf("property", 0, 4, n -> groups.instance(2, n));
        groups.rescale(2);
        outsideOf("instance of two", 0, 1, n -> groups.instance(n, 4));
        groups.rescale(4);
        outsideOf("instance of four", 0, 3, n -> groups.instance(n, 1));
        groups.undo();
        outsideOf("instance of two again", 0, 1, n -> groups.instance(n, 2));
    }

    /** Each of four instances gets one record in each tick, from one of four sources. */
    private static BarrierFlow eachOne() {
        return Flows.of("source a records 9 seed 0;source b records 9 seed 1;source c records 9 seed 2;"
                + "source d records 9 seed 3;instances 4;room 9;");
    }

    private static String ofInstances(BarrierFlow flow, int what) {
        StringBuilder text = new StringBuilder();
        for (int i = 0; i < flow.count(1); i++) {
            text.append(flow.instance(i, what)).append(' ');
        }
        return text.toString().trim();
    }

    private static void sink() {
        Doc.says("promise 14", "0 its open results, 1 the results that it closed and does not show yet, 2 those that it shows, "
                + "3 its blocked channels, as a bit mask of instances");
        BarrierFlow flow = Flows.of("source a records 3 seed 0;sinks 2;");
        flow.run(3);
        String[] due = {"1 0 0 0 / 2 0 0 0", "0 1 0 0 / 0 2 0 0", "0 0 1 0 / 0 0 2 0"};
        for (int n = 0; n < 3; n++) {
            Check.due("open, closed, shown: " + n, due[n], () -> flow.sink(0, 0) + " " + flow.sink(0, 1) + " "
                    + flow.sink(0, 2) + " " + flow.sink(0, 3) + " / " + flow.sink(1, 0) + " " + flow.sink(1, 1) + " "
                    + flow.sink(1, 2) + " " + flow.sink(1, 3));
            if (n == 0) {
                flow.begin(false);
            }
            flow.run(1);
        }
        // the sink took from instance 3 last, whose barrier it takes last: the others stand for bits 0 to 2
        BarrierFlow mask = Flows.of("source a records 0 seed 0;source b records 0 seed 0;instances 4;sinks 2;");
        mask.begin(false);
        mask.run(4);
        Check.due("instances 0 to 2", "7 7", () -> mask.sink(0, 3) + " " + mask.sink(1, 3));
        BarrierFlow last = Flows.of("source a records 1 seed 0;source b records 0 seed 0;instances 2;");
        last.run(1);
        last.begin(true);
        last.run(1);
        last.begin(false);
        last.run(2);
        Check.due("instance 1, behind instance 0 from which it took last", 2, () -> last.sink(0, 3));
        Doc.says("promise 14", "Throws `IndexOutOfBoundsException` if there is no such sink or property");
        outsideOf("sink", 0, 1, n -> flow.sink(n, 0));
        outsideOf("property", 0, 3, n -> flow.sink(1, n));
        outsideOf("sink of one", 0, 0, n -> last.sink(n, 0));
    }

    private static void shown() {
        Doc.says("promise 15", "index of the result, from 0 for the first one that was shown");
        BarrierFlow flow = Flows.of("source a records 3 seed 0;sinks 2;");
        Check.noSuch("nothing is shown", () -> flow.shown(0, 0, 0));
        flow.run(3);
        flow.begin(false);
        flow.run(1);
        Check.noSuch("closed, not shown", () -> flow.shown(0, 0, 0));
        flow.run(1);
        Check.due("the only one of sink 0", "0 1", () -> flow.shown(0, 0, 0) + " " + flow.shown(0, 0, 1));
        Check.due("the first of sink 1", "4 8", () -> flow.shown(1, 0, 0) + " " + flow.shown(1, 0, 1));
        Check.due("the last of sink 1", "4 23", () -> flow.shown(1, 1, 0) + " " + flow.shown(1, 1, 1));
        Doc.says("promise 15", "Throws `NoSuchElementException` if it shows no such result");
        for (int index : new int[] {-1, 2, 200, 800, LEAST, MOST}) {
            Check.noSuch("result " + index + " of sink 1", () -> flow.shown(1, index, 0));
            Check.noSuch("sum of result " + index, () -> flow.shown(1, index, 1));
        }
        Check.noSuch("result 1 of sink 0", () -> flow.shown(0, 1, 0));
        Doc.says("promise 15", "Throws `IndexOutOfBoundsException` if there is no such sink or part");
        outsideOf("sink", 0, 1, n -> flow.shown(n, 0, 0));
        Doc.says("promise 15", "0 the key, 1 the sum");
        outsideOf("part", 0, 1, n -> flow.shown(0, 0, n));
    }

    private static void inChannel() {
        Doc.says("promise 16", "true to count barriers, false to count records");
        BarrierFlow flow = Flows.of("source a records 9 seed 0;source b records 9 seed 0;instances 2;");
        flow.run(4);
        flow.begin(false);
        flow.run(1);
        Check.due("to instance 1 of source 1 the barrier alone", "0 1", () -> flow.inChannel(1, 1, false) + " "
                + flow.inChannel(1, 1, true));
        BarrierFlow one = Flows.of("source a records 9 seed 0;source b records 9 seed 0;");
        one.run(4);
        one.begin(false);
        one.run(1);
        Check.due("two before the barrier, one behind it", "3 1", () -> one.inChannel(1, 0, false) + " "
                + one.inChannel(1, 0, true));
        Doc.says("promise 16", "Throws `IndexOutOfBoundsException` if there is no such source or instance");
        outsideOf("source", 0, 1, n -> flow.inChannel(n, 0, false));
        outsideOf("source, barriers", 0, 1, n -> flow.inChannel(n, 1, true));
        outsideOf("instance", 0, 1, n -> flow.inChannel(0, n, false));
        outsideOf("instance, barriers", 0, 1, n -> flow.inChannel(1, n, true));
        flow.rescale(4);
        outsideOf("instance of four", 0, 3, n -> flow.inChannel(1, n, true));
        flow.rescale(1);
        outsideOf("instance of one", 0, 0, n -> flow.inChannel(1, n, true));
    }

    private static void outChannel() {
        Doc.says("promise 17", "true to count barriers, false to count results");
        BarrierFlow flow = Flows.of("source a records 40 seed 0;source b records 40 seed 1;instances 2;room 9;");
        flow.run(4);
        flow.begin(false);
        flow.run(2);
        Check.due("a result and a barrier", "1 1", () -> flow.outChannel(1, 0, false) + " " + flow.outChannel(1, 0, true));
        flow.run(1);
        Check.due("two results, one of them behind the barrier", "2 1", () -> flow.outChannel(1, 0, false) + " "
                + flow.outChannel(1, 0, true));
        Doc.says("promise 17", "Throws `IndexOutOfBoundsException` if there is no such instance or sink");
        outsideOf("instance", 0, 1, n -> flow.outChannel(n, 0, false));
        outsideOf("instance, barriers", 0, 1, n -> flow.outChannel(n, 0, true));
        outsideOf("sink of one", 0, 0, n -> flow.outChannel(0, n, false));
        BarrierFlow two = Flows.of(FOUR);
        outsideOf("sink of two", 0, 1, n -> two.outChannel(2, n, true));
        two.rescale(4);
        outsideOf("instance of four", 0, 3, n -> two.outChannel(n, 1, true));
    }

    private static String progressOf(BarrierFlow flow) {
        StringBuilder text = new StringBuilder();
        for (int what = 0; what <= 6; what++) {
            text.append(flow.progress(what)).append(' ');
        }
        return text.toString().trim();
    }

    private static String completedOf(BarrierFlow flow) {
        StringBuilder text = new StringBuilder();
        for (int what = 0; what <= 5; what++) {
            text.append(flow.completed(what)).append(' ');
        }
        return text.toString().trim();
    }

    private static void progress() {
        Doc.says("promise 18", "NONE if none is in progress.");
        BarrierFlow flow = Flows.of("source a records 0 seed 0;source b records 9 seed 0 lag 3;instances 4;sinks 2;");
        Check.due("at first", "-1 -1 -1 -1 -1 -1 -1", () -> progressOf(flow));
        flow.run(2);
        flow.begin(true);
        Doc.says("promise 18", "0 its number (1 for the first one, and 1 more for each one that begins, also behind one that ended "
                + "by a failure), 1 the time at which it began, 2 whether it overtakes (1 or 0), 3 sources that have put their "
                + "barriers, 4 barriers that have arrived at instances, 5 barriers that have arrived at sinks, 6 records and "
                + "results that are kept for it so far");
        Check.due("begun", "1 2 1 0 0 0 0", () -> progressOf(flow));
        flow.run(1);
        Check.due("a tick later", "1 2 1 1 4 8 1", () -> progressOf(flow));
        flow.run(2);
        Check.due("two more", "1 2 1 1 4 8 3", () -> progressOf(flow));
        flow.fail();
        Check.due("ended", "-1 -1 -1 -1 -1 -1 -1", () -> progressOf(flow));
        flow.begin(false);
        Check.due("the next one", "2 5 0 0 0 0 0", () -> progressOf(flow));
        flow.run(1);
        Check.due("it aligns", "2 5 0 1 4 0 0", () -> progressOf(flow));
        flow.rescale(1);
        flow.begin(true);
        Check.due("behind a rescaling", "3 6 1 0 0 0 0", () -> progressOf(flow));
        flow.undo();
        Check.due("undone", -1, () -> flow.progress(0));
        Check.due("it begins again", 3, () -> flow.begin(false));
        flow.run(9);
        Check.due("completed", "-1 -1 -1 -1 -1 -1 -1", () -> progressOf(flow));
        Check.due("the fourth", 4, () -> flow.begin(false));
        Doc.says("promise 18", "Throws `IllegalArgumentException` if what is out of range");
        illegalBeyond("what", 0, 6, flow::progress);
        BarrierFlow none = new BarrierFlow();
        illegalBeyond("what, if none is in progress,", 0, 6, none::progress);
    }

    private static void completed() {
        Doc.says("promise 19", "NONE if there is none.");
        BarrierFlow flow = Flows.of("source a records 0 seed 0;source b records 9 seed 0 lag 3;");
        Check.due("at first", "-1 -1 -1 -1 -1 -1", () -> completedOf(flow));
        flow.run(2);
        flow.begin(true);
        flow.run(3);
        Check.due("one in progress is none", "-1 -1 -1 -1 -1 -1", () -> completedOf(flow));
        Doc.says("promise 19", "0 its number, 1 the time at which it began, 2 the time of the tick in which it was completed "
                + "(before the time grew), 3 whether it overtook (1 or 0), 4 records and results that are kept in it, "
                + "5 whether it is shown (1 or 0)");
        flow.run(1);
        Check.due("begun at 2, completed at 5, three are kept", "1 2 5 1 3 0", () -> completedOf(flow));
        flow.begin(false);
        Check.due("another one in progress", "1 2 5 1 3 0", () -> completedOf(flow));
        flow.run(1);
        Check.due("it is shown", "1 2 5 1 3 1", () -> completedOf(flow));
        flow.run(9);
        Check.due("the next one aligned", "2 6 10 0 0 1", () -> completedOf(flow));
        flow.undo();
        flow.fail();
        Check.due("it is there behind a failure", "1 2 5 1 3 1", () -> completedOf(flow));
        Doc.says("promise 19", "Throws `IllegalArgumentException` if what is out of range");
        illegalBeyond("what", 0, 5, flow::completed);
        BarrierFlow none = new BarrierFlow();
        illegalBeyond("what, if there is none,", 0, 5, none::completed);
    }

    private static void noted() {
        Doc.says("promise 20", "0 if there is no such checkpoint.");
        BarrierFlow flow = Flows.of("source a records 9 seed 0;source b records 9 seed 0 lag 2;room 9;");
        flow.run(3);
        flow.begin(true);
        flow.run(2);
        Check.due("one in progress", "0 0", () -> flow.notedPosition(0) + " " + flow.notedPosition(1));
        Doc.says("promise 21", "0 if there is no such checkpoint.");
        Check.due("one in progress", "0 0", () -> flow.notedSum(0) + " " + flow.notedSum(4));
        flow.run(1);
        Check.due("handled before its first barrier", "1 8 1", () -> flow.notedSum(0) + " " + flow.notedSum(4) + " "
                + flow.notedSum(1));
        Doc.says("promise 20", "Returns the position of a source in the latest completed checkpoint.");
        Check.due("3 of source 0, 5 of source 1", "3 5", () -> flow.notedPosition(0) + " " + flow.notedPosition(1));
        Doc.says("promise 20", "Throws `IndexOutOfBoundsException` if there is no such source");
        outsideOf("source", 0, 1, flow::notedPosition);
        BarrierFlow none = new BarrierFlow();
        outsideOf("source, without a checkpoint,", 0, 0, none::notedPosition);
        Doc.says("promise 21", "0 to 15");
        Check.due("key 15", 0, () -> flow.notedSum(15));
        Doc.says("promise 21", "Throws `IllegalArgumentException` if key is out of range");
        illegalBeyond("key", 0, 15, flow::notedSum);
        illegalBeyond("key, without a checkpoint,", 0, 15, none::notedSum);
        Doc.says("promise 21", "Returns the sum of a key in the latest completed checkpoint.");
        BarrierFlow last = Flows.of("source a records 1 seed 0;source b records 1 seed 0;source c records 1 seed 0;"
                + "source d records 1 seed 3;");
        last.run(4);
        last.begin(true);
        last.run(1);
        Check.due("key 0", 1, () -> last.notedSum(0));
        Check.due("key 15", 4, () -> last.notedSum(15));
    }

    private static void shownOf() {
        Doc.says("promise 22", "Returns the number of results of a key that its sink shows.");
        BarrierFlow flow = Flows.of("source a records 4 seed 0;source b records 1 seed 0;source c records 1 seed 0;"
                + "source d records 1 seed 3;sinks 2;");
        flow.run(7);
        Check.due("open", 0, () -> flow.shownOf(4));
        flow.begin(true);
        flow.run(1);
        Check.due("closed", 0, () -> flow.shownOf(4));
        flow.run(1);
        Check.due("shown", "1 2 1 0 1", () -> flow.shownOf(0) + " " + flow.shownOf(4) + " " + flow.shownOf(8) + " "
                + flow.shownOf(12) + " " + flow.shownOf(15));
        Doc.says("promise 22", "0 to 15");
        Check.due("key 0", 1, () -> flow.shownOf(0));
        Check.due("key 15", 1, () -> flow.shownOf(15));
        Doc.says("promise 22", "Throws `IllegalArgumentException` if key is out of range");
        illegalBeyond("key", 0, 15, flow::shownOf);
    }

    private static void expected() {
        Doc.says("promise 23", "the sum of the values of the first records of a key.");
        BarrierFlow flow = Flows.of("source a records 9 seed 0;source b records 200 seed 3;source c records 0 seed 0;");
        // key 0: records 0, 7 and 8 with values 1, 50 and 7
        int[] sums = {1, 51, 58};
        for (int n = 1; n <= 3; n++) {
            int many = n;
            Check.due("the first " + n, sums[n - 1], () -> flow.expected(0, many));
        }
        Doc.says("promise 23", "NONE if its source has not so many records of this key, or there is no such source.");
        Check.due("one more", -1, () -> flow.expected(0, 4));
        Check.due("by far", -1, () -> flow.expected(0, MOST));
        Check.due("a source without records", -1, () -> flow.expected(2, 1));
        Check.due("no such source", -1, () -> flow.expected(3, 1));
        Check.due("no such source, key 15", -1, () -> flow.expected(15, 1));
        BarrierFlow few = Flows.of("source a records 2 seed 0;");
        Check.due("no record of key 12", -1, () -> few.expected(12, 1));
        Check.due("one of key 4", "8 -1", () -> few.expected(4, 1) + " " + few.expected(4, 2));
        few.run(9);
        few.fail();
        Check.due("whatever happened", "8 -1", () -> few.expected(4, 1) + " " + few.expected(4, 2));
        int sum = 0;
        int all = 0;
        for (int i = 0; i < 200; i++) {
            if (flow.record(1, i, 0) == 13) {
                sum += flow.record(1, i, 1);
                all++;
            }
        }
        int due = sum;
        int many = all;
        Check.due("all of 200", due, () -> flow.expected(13, many));
        Check.due("all of 200 and one", -1, () -> flow.expected(13, many + 1));
        Doc.says("promise 23", "Throws `IllegalArgumentException` if key is out of range or many is less than 1");
        illegalBeyond("key", 0, 15, n -> flow.expected(n, 1));
        for (int wrong : new int[] {0, -1, LEAST}) {
            Check.illegal("many " + wrong, () -> flow.expected(0, wrong));
            Check.illegal("many " + wrong + " of no source", () -> flow.expected(3, wrong));
            Check.illegal("key 16, many " + wrong, () -> flow.expected(16, wrong));
        }
        Doc.says("promise 23", "0 to 15");
        Check.due("key 0", 1, () -> flow.expected(0, 1));
        Check.due("key 15", -1, () -> flow.expected(15, 1));
        Doc.says("promise 23", "how many records of this key, 1 or more");
        Check.due("1", 1, () -> flow.expected(0, 1));
        Doc.says("promise 23", "Returns what an undisturbed run shows:");
        BarrierFlow run = Flows.of("source a records 9 seed 0;every 1;");
        run.run(30);
        Check.due("the third result of key 0", 58, () -> run.shown(0, 8, 1));
        Check.due("is of key 0", 0, () -> run.shown(0, 8, 0));
    }

    private static void atRisk() {
        Doc.says("promise 24", "Returns the records that would be sent again if the flow failed now: the sum over all sources of "
                + "their positions minus those in the latest completed checkpoint.");
        BarrierFlow flow = Flows.of("source a records 9 seed 0;source b records 2 seed 0;source c records 0 seed 0;room 9;");
        Check.due("none was sent", 0, flow::atRisk);
        flow.run(1);
        Check.due("no checkpoint", 2, flow::atRisk);
        flow.begin(true);
        Check.due("one in progress", 2, flow::atRisk);
        flow.run(1);
        Check.due("one completed, at positions 1 and 1", 2, flow::atRisk);
        flow.run(3);
        Check.due("positions 5 and 2", 5, flow::atRisk);
        flow.fail();
        Check.due("behind a failure", 0, flow::atRisk);
        flow.undo();
        Check.due("undone", 5, flow::atRisk);
        flow.run(20);
        flow.begin(false);
        flow.run(20);
        Check.due("all is in the checkpoint", 0, flow::atRisk);
    }

    private static void repeated() {
        Doc.says("promise 25", "0 if none was sent.");
        BarrierFlow flow = Flows.of("source a records 9 seed 0;room 9;");
        Check.due("at first", 0.0f, flow::repeated);
        flow.fail();
        Check.due("behind a failure", 0.0f, flow::repeated);
        Doc.says("promise 25", "Returns the share of sent records that were sent again: (all records that were sent - the sum "
                + "of the positions) / all records that were sent, both converted to float.");
        flow.run(1);
        Check.due("none of 1", 0.0f, flow::repeated);
        flow.fail();
        Check.due("1 of 1", 1.0f, flow::repeated);
        flow.run(2);
        Check.due("1 of 3", 1.0f / 3.0f, flow::repeated);
        flow.run(4);
        Check.due("1 of 7", 1.0f / 7.0f, flow::repeated);
        flow.fail();
        flow.run(3);
        Check.due("7 of 10", 7.0f / 10.0f, flow::repeated);
    }

    private static void skew() {
        Doc.says("promise 26", "0 if none was handled.");
        BarrierFlow flow = Flows.of("source a records 9 seed 0;instances 3;");
        Check.due("at first", 0.0, flow::skew);
        Doc.says("promise 26", "Returns how uneven instances work: the greatest number of records that an instance has handled "
                + "since the latest failure, divided by the mean of these numbers, both converted to double.");
        // keys 0, 4, 4, 8, 8: owners 0, 1, 1, 0, 0 of 3
        double[] due = {1 / (1 / 3.0), 1 / (2 / 3.0), 2 / (3 / 3.0), 2 / (4 / 3.0), 3 / (5 / 3.0)};
        for (int n = 0; n < due.length; n++) {
            flow.run(1);
            Check.due("behind tick " + (n + 1), due[n], flow::skew);
        }
        flow.fail();
        Check.due("none since the failure", 0.0, flow::skew);
        flow.run(1);
        flow.rescale(4);
        Check.due("none since the rescaling", 0.0, flow::skew);
        flow.run(1);
        Check.due("one of four", 4.0, flow::skew);
        flow.rescale(1);
        flow.run(7);
        Check.due("of one instance", 1.0, flow::skew);
    }

    private static void fullest() {
        Doc.says("promise 27", "Finds the fullest channel to an instance.");
        Check.due("of a new flow", -1, () -> new BarrierFlow().fullest());
        Doc.says("promise 27", "NONE if all are without records.");
        BarrierFlow flow = Flows.of("source a records 0 seed 0;source b records 0 seed 0 lag 9;");
        Check.due("empty", -1, flow::fullest);
        flow.begin(false);
        flow.run(1);
        Check.due("nothing but barriers", -1, flow::fullest);
        BarrierFlow results = eachOne();
        results.run(3);
        Check.due("nothing but results, in channels to a sink", -1, results::fullest);
        Doc.says("promise 27", "Returns 10 * source + instance of the one that holds most records, of several the one with the "
                + "smallest source, then the smallest instance;");
        BarrierFlow first = Flows.of("source a records 9 seed 0;source b records 0 seed 0 lag 9;instances 2;");
        first.begin(false);
        // blocked: keys 0, 4, 4, 8, 8 come to instances 0, 1, 1, 0, 0
        int[] due = {0, 0, 1, 0, 0, 0};
        for (int n = 0; n < due.length; n++) {
            first.run(1);
            Check.due("of two instances behind tick " + (n + 1), due[n], first::fullest);
        }
        BarrierFlow last = Flows.of("source a records 0 seed 0 lag 9;source b records 0 seed 0;source c records 0 seed 0;"
                + "source d records 9 seed 1;instances 4;");
        last.begin(false);
        last.run(1);
        Check.due("source 3, instance 3", 33, last::fullest);
        BarrierFlow sources = Flows.of("source a records 0 seed 0 lag 9;source b records 1 seed 1;source c records 1 seed 0;"
                + "source d records 2 seed 0;instances 4;");
        sources.begin(false);
        sources.run(1);
        // keys 5, 2 and 3: instances 2, 1 and 1
        Check.due("of three with one the smallest source", 12, sources::fullest);
        sources.run(1);
        Check.due("key 7 comes to instance 3", "12 1", () -> sources.fullest() + " " + sources.inChannel(3, 3, false));
    }
}
