/** The boundary cases of sections 5 and 6: failure, rescaling, changes; and of exceptions. */
final class EdgesOfFailures {
    private static final String PAIR = "source a records 40 seed 0;source b records 40 seed 1;instances 2;room 9;";

    private EdgesOfFailures() {
    }

    static void all() {
        losesAll();
        showsAtFailure();
        goesBack();
        goesBackToNothing();
        keptIsThereAgain();
        freesChannels();
        beginsWithChannelZero();
        timeGoesOn();
        rescales();
        keptRecordsOfOldInstances();
        keptRecordsOfNewInstances();
        keptResultsForBothSinks();
        keptResultsOfOldInstances();
        checkpointHasThemThere();
        changes();
        sixChanges();
        whatUndoLeaves();
        firstException();
        throwsChangeNothing();
        answersChangeNothing();
    }

    private static String channels(BarrierFlow flow) {
        StringBuilder text = new StringBuilder();
        for (int i = 0; i < flow.count(1); i++) {
            for (int s = 0; s < flow.count(0); s++) {
                text.append(flow.inChannel(s, i, false)).append('+').append(flow.inChannel(s, i, true)).append(' ');
            }
            for (int k = 0; k < flow.count(2); k++) {
                text.append(flow.outChannel(i, k, false)).append('+').append(flow.outChannel(i, k, true)).append(' ');
            }
        }
        return text.toString();
    }

    private static void losesAll() {
        Doc.says("section 5", "What is in channels, open, or closed for a checkpoint that is not completed is lost, "
                + "and a checkpoint in progress ends.");
        BarrierFlow flow = Flows.of(PAIR + "source c records 0 seed 0 lag 3;");
        flow.run(4);
        flow.begin(true);
        flow.run(1);
        Check.due("open, closed, in progress", "1 4 1", () -> flow.sink(0, 0) + " " + flow.sink(0, 1) + " "
                + flow.progress(0));
        Check.due("results in channels", "2 3", () -> flow.outChannel(0, 0, false) + " " + flow.outChannel(1, 0, false));
        flow.fail();
        Check.due("nothing is open, closed or shown", "0 0 0", () -> flow.sink(0, 0) + " " + flow.sink(0, 1) + " "
                + flow.sink(0, 2));
        Check.due("channels are empty", "0+0 0+0 0+0 0+0 0+0 0+0 0+0 0+0 ", () -> channels(flow));
        Check.due("none is in progress", -1, () -> flow.progress(0));
        Check.due("none was completed", -1, () -> flow.completed(0));
        flow.run(9);
        Check.due("the lost one is not completed later", 0, () -> flow.count(7));
        BarrierFlow barriers = Flows.of("source a records 9 seed 0;source b records 9 seed 0;");
        barriers.run(4);
        barriers.begin(false);
        barriers.run(1);
        Check.due("barriers wait", "2+1 3+1 0+0 ", () -> channels(barriers));
        barriers.fail();
        Check.due("they are lost, too", "0+0 0+0 0+0 ", () -> channels(barriers));
        Check.due("another one can begin", 2, () -> barriers.begin(false));
    }

    private static void showsAtFailure() {
        Doc.says("section 5", "If a completed checkpoint is not shown yet, it is shown.");
        BarrierFlow flow = Flows.of("source a records 3 seed 0;");
        flow.run(3);
        flow.begin(false);
        flow.run(1);
        Check.due("closed, not shown", "3 0 0", () -> flow.sink(0, 1) + " " + flow.sink(0, 2) + " " + flow.completed(5));
        flow.begin(true);
        flow.fail();
        Check.due("shown, though another one was in progress", "0 3 1", () -> flow.sink(0, 1) + " " + flow.sink(0, 2) + " "
                + flow.completed(5));
        flow.fail();
        flow.run(3);
        Check.due("once", "0 3", () -> flow.sink(0, 1) + " " + flow.sink(0, 2));
        BarrierFlow scaled = Flows.of("source a records 3 seed 0;sinks 2;");
        scaled.run(3);
        scaled.begin(false);
        scaled.run(1);
        scaled.rescale(4);
        Check.due("shown by a rescaling", "1 2 1", () -> scaled.sink(0, 2) + " " + scaled.sink(1, 2) + " "
                + scaled.completed(5));
    }

    private static void goesBack() {
        Doc.says("section 5", "All sources go back to the positions, all keys to the sums that the latest completed checkpoint has,");
        BarrierFlow flow = Flows.of("source a records 9 seed 0;source b records 2 seed 0;source c records 0 seed 0;room 9;");
        flow.run(1);
        flow.begin(true);
        flow.run(3);
        flow.begin(true);
        flow.run(2);
        Check.due("two were completed", 2, () -> flow.count(7));
        String sums = noted(flow);
        flow.setLag(0, 9);
        flow.begin(true);
        flow.run(2);
        Check.due("a third one is in progress", 3, () -> flow.progress(0));
        Check.due("positions", "8 2 0", () -> positions(flow));
        Check.due("sums changed", false, () -> sums(flow).equals(sums));
        Check.due("records that come again", 4, flow::fail);
        Check.due("back to the second one", "4 2 0", () -> positions(flow));
        Check.due("its sums", sums, () -> sums(flow));
        Check.due("noted as before", sums, () -> noted(flow));
        Check.due("what is set stays", 9, () -> flow.source(0, 2));
    }

    private static String positions(BarrierFlow flow) {
        return flow.source(0, 3) + " " + flow.source(1, 3) + " " + flow.source(2, 3);
    }

    private static String sums(BarrierFlow flow) {
        StringBuilder text = new StringBuilder();
        for (int key = 0; key < 16; key++) {
            text.append(flow.sum(key)).append(' ');
        }
        return text.toString();
    }

    private static String noted(BarrierFlow flow) {
        StringBuilder text = new StringBuilder();
        for (int key = 0; key < 16; key++) {
            text.append(flow.notedSum(key)).append(' ');
        }
        return text.toString();
    }

    private static void goesBackToNothing() {
        Doc.says("section 5", "or to 0 if there is none;");
        BarrierFlow flow = Flows.of("source a records 9 seed 0;source b records 9 seed 1;source c records 9 seed 2 lag 9;");
        flow.run(5);
        flow.begin(true);
        flow.run(4);
        Check.due("one is in progress, none was completed", "1 -1", () -> flow.progress(0) + " " + flow.completed(0));
        flow.fail();
        Check.due("positions", "0 0 0", () -> positions(flow));
        Check.due("sums", "0 ".repeat(16), () -> sums(flow));
        Check.due("none is completed now", -1, () -> flow.completed(0));
        BarrierFlow first = new BarrierFlow();
        Check.due("of a new flow", 0, first::fail);
        Check.due("it is counted", "1 1", () -> first.count(8) + " " + first.count(10));
    }

    private static void keptIsThereAgain() {
        Doc.says("section 5", "what it has kept is in its channels again;");
        BarrierFlow flow = Flows.of(PAIR);
        flow.run(4);
        flow.begin(true);
        flow.run(1);
        flow.setRoom(1);
        for (int n = 1; n <= 3; n++) {
            flow.fail();
            Check.due("after failure " + n + ", more than the room", "0+0 0+0 2+0 0+0 0+0 2+0 ", () -> channels(flow));
            Check.due("it stays kept", 4, () -> flow.completed(4));
            flow.run(3);
        }
        BarrierFlow align = Flows.of(PAIR);
        align.run(4);
        align.begin(false);
        align.run(7);
        align.fail();
        Check.due("nothing was kept", "0+0 0+0 0+0 0+0 0+0 0+0 ", () -> channels(align));
    }

    private static void freesChannels() {
        Doc.says("section 5", "no channel is blocked,");
        BarrierFlow flow = Flows.of("source a records 9 seed 0;source b records 9 seed 0 lag 9;instances 4;");
        flow.begin(false);
        flow.run(2);
        Check.due("all instances block source 0", "1 1 1 1", () -> flow.instance(0, 2) + " " + flow.instance(1, 2) + " "
                + flow.instance(2, 2) + " " + flow.instance(3, 2));
        flow.fail();
        Check.due("none does", 0, () -> flow.instance(0, 2) + flow.instance(1, 2) + flow.instance(2, 2)
                + flow.instance(3, 2));
        flow.run(1);
        Check.due("its record is taken", 1, () -> flow.sum(0));
        BarrierFlow sink = Flows.of("source a records 0 seed 0;instances 4;");
        sink.begin(false);
        sink.run(2);
        Check.due("the sink blocks two instances", 3, () -> sink.sink(0, 3));
        sink.fail();
        Check.due("the sink blocks none", 0, () -> sink.sink(0, 3));
        sink.begin(false);
        sink.run(3);
        sink.rescale(3);
        Check.due("none by a rescaling", 0, () -> sink.sink(0, 3));
    }

    private static void beginsWithChannelZero() {
        Doc.says("section 5", "and instances and sinks begin with their channel 0 again.");
        BarrierFlow flow = Flows.of("source a records 9 seed 0;source b records 9 seed 0;source c records 9 seed 0;");
        for (int ticks = 1; ticks <= 3; ticks++) {
            flow.run(ticks);
            flow.fail();
            flow.run(1);
            Check.due("source 0 first", "1 0 0", () -> flow.sum(0) + " " + flow.sum(1) + " " + flow.sum(2));
            flow.rescale(1);
        }
        BarrierFlow sink = Flows.of(PAIR);
        for (int ticks = 1; ticks <= 3; ticks++) {
            sink.run(ticks);
            sink.fail();
            sink.run(1);
            Check.due("instance 0 first", "0 1", () -> sink.outChannel(0, 0, false) + " " + sink.outChannel(1, 0, false));
            sink.rescale(2);
        }
    }

    private static void timeGoesOn() {
        Doc.says("section 5", "The time goes on.");
        BarrierFlow flow = Flows.of("source a records 9 seed 0;every 4;");
        flow.run(5);
        flow.fail();
        Check.due("behind a failure", 5, () -> flow.count(5));
        flow.rescale(2);
        Check.due("behind a rescaling", 5, () -> flow.count(5));
        flow.run(3);
        Check.due("then", "8 2", () -> flow.count(5) + " " + flow.count(6));
        flow.run(1);
        Check.due("time 8 is a multiple of 4", "9 3", () -> flow.count(5) + " " + flow.count(6));
    }

    private static void rescales() {
        Doc.says("section 5", "Rescaling is a failure, behind which there is another number of instances: "
                + "the groups have other owners then.");
        String[] owners = {"00000000", "00001111", "00011122", "00112233"};
        for (int before = 1; before <= 4; before++) {
            BarrierFlow flow = Flows.of("source a records 9 seed 0;instances " + before + ";");
            for (int n = 1; n <= 4; n++) {
                int after = n;
                flow.run(3);
                flow.rescale(after);
                Check.due("instances", after, () -> flow.count(1));
                Check.due("failures", after, () -> flow.count(8));
                Check.due("position", 0, () -> flow.source(0, 3));
                for (int k = 0; k < 8; k++) {
                    int key = k;
                    Check.due("owner of key " + k + " of " + n, owners[n - 1].charAt(k) - '0', () -> flow.owner(key));
                }
                Check.outside("no instance " + n, () -> flow.instance(after, 0));
                Check.due("none is blocked, none handled", "0 0", () -> flow.instance(after - 1, 1) + " "
                        + flow.instance(after - 1, 2));
            }
        }
        BarrierFlow more = Flows.of("source a records 9 seed 0;source b records 9 seed 1;");
        more.rescale(2);
        more.run(1);
        Check.due("both instances work", "1 1", () -> more.instance(0, 1) + " " + more.instance(1, 1));
    }

    /*
     * Records 0 to 3 of a source are taken before its barrier and kept: keys s and 8 + s (values 1, 22) in the
     * channel to instance 0, keys 4 + s and 4 + s (values 8, 15) in that to instance 1.
     */
    private static BarrierFlow keptOfTwo(int source) {
        StringBuilder text = new StringBuilder();
        for (int s = 0; s < 4; s++) {
            text.append("source ").append((char) ('a' + s)).append(s == source ? " records 9 seed 0 lag 4;"
                    : " records 0 seed 0;");
        }
        BarrierFlow flow = Flows.of(text + "instances 2;");
        flow.begin(true);
        flow.run(5);
        return flow;
    }

    private static void keptRecordsOfOldInstances() {
        Doc.says("section 5", "Kept records come into the channels from their source to the new owners,");
        for (int s = 0; s < 4; s++) {
            int source = s;
            BarrierFlow flow = keptOfTwo(source);
            Check.due("kept", "1 4", () -> flow.completed(0) + " " + flow.completed(4));
            flow.fail();
            Check.due("in channels of two", "2 2", () -> flow.inChannel(source, 0, false) + " "
                    + flow.inChannel(source, 1, false));
            flow.rescale(1);
            Check.due("all in one channel", "4 4", () -> flow.inChannel(source, 0, false) + " " + flow.instance(0, 3));
            Doc.says("section 5",
                    "those of the old instance 0 first, in their order, then those of the old instance 1, and so on.");
            int[][] sums = {{1, 0, 0}, {1, 22, 0}, {1, 22, 8}, {1, 22, 23}};
            for (int[] row : sums) {
                flow.run(1);
                Check.due("first key of the old instance 0", row[0], () -> flow.sum(source));
                Check.due("second key of the old instance 0", row[1], () -> flow.sum(8 + source));
                Check.due("key of the old instance 1", row[2], () -> flow.sum(4 + source));
            }
        }
    }

    private static void keptRecordsOfNewInstances() {
        Doc.says("section 5", "Kept records come into the channels from their source to the new owners,");
        // the owners of groups 0 to 3 and of groups 4 to 7, if there are 2, 3 and 4 instances
        int[][] low = {{0, 0, 0, 0}, {0, 0, 0, 1}, {0, 0, 1, 1}};
        int[][] high = {{1, 1, 1, 1}, {1, 1, 2, 2}, {2, 2, 3, 3}};
        for (int s = 0; s < 4; s++) {
            for (int n = 2; n <= 4; n++) {
                int source = s;
                int first = low[n - 2][s];
                int second = high[n - 2][s];
                BarrierFlow flow = keptOfTwo(source);
                flow.rescale(1);
                flow.rescale(n);
                Check.due("to instance " + first + " of " + n, 2, () -> flow.inChannel(source, first, false));
                Check.due("to instance " + second + " of " + n, 2, () -> flow.inChannel(source, second, false));
                flow.run(1);
                Check.due("each in its order", "1 0 8", () -> flow.sum(source) + " " + flow.sum(8 + source) + " "
                        + flow.sum(4 + source));
                flow.run(1);
                Check.due("each in its order then", "1 22 23", () -> flow.sum(source) + " " + flow.sum(8 + source)
                        + " " + flow.sum(4 + source));
                Check.due("handled by both", 4, () -> flow.instance(first, 1) + flow.instance(second, 1));
            }
        }
    }

    /*
     * Four instances, of which 0 and 1 have results for sink 0 alone, 2 and 3 for sink 1. In tick 5 one of key 10
     * (instance 1, sink 0) and one of key 6 (instance 3, sink 1) stand before the barriers and are kept.
     */
    static BarrierFlow resultsForBoth() {
        BarrierFlow flow = Flows.of("source a records 9 seed 0;source b records 0 seed 0;source c records 9 seed 0;"
                + "instances 4;sinks 2;");
        flow.run(4);
        flow.begin(true);
        flow.run(1);
        return flow;
    }

    private static String ways(BarrierFlow flow) {
        StringBuilder text = new StringBuilder();
        for (int i = 0; i < flow.count(1); i++) {
            text.append(flow.outChannel(i, 0, false)).append('/').append(flow.outChannel(i, 1, false)).append(' ');
        }
        return text.toString();
    }

    private static void keptResultsForBothSinks() {
        Doc.says("section 5", "kept results into the channels from the new owners to their sink:");
        BarrierFlow flow = resultsForBoth();
        Check.due("two are kept", "1 2", () -> flow.completed(0) + " " + flow.completed(4));
        flow.fail();
        Check.due("from where they were", "0/0 1/0 0/0 0/1 ", () -> ways(flow));
        String[] ways = {"1/1 ", "1/0 0/1 ", "1/0 0/0 0/1 ", "0/0 1/0 0/0 0/1 "};
        for (int n : new int[] {1, 4, 2, 3, 1, 3, 2, 4}) {
            flow.rescale(n);
            Check.due("from the owners of keys 10 and 6 of " + n, ways[n - 1], () -> ways(flow));
        }
        flow.run(1);
        Check.due("each sink takes its own", "1 1", () -> flow.sink(0, 0) + " " + flow.sink(1, 0));
    }

    private static void keptResultsOfOldInstances() {
        Doc.says("section 5", "kept results into the channels from the new owners to their sink:");
        BarrierFlow flow = Flows.of(PAIR);
        flow.run(5);
        flow.begin(true);
        flow.run(1);
        // of ten results the sink took five: of instance 0 those of ticks 4 and 5, of instance 1 of ticks 3 to 5
        Check.due("kept", 5, () -> flow.completed(4));
        flow.rescale(1);
        Check.due("all from one instance", "0+0 0+0 5+0 ", () -> channels(flow));
        Doc.says("section 5", "those of the old instance 0 first, in their order, then those of the old instance 1, and so on.");
        flow.run(5);
        flow.begin(true);
        flow.run(2);
        String shown = Flows.print(flow, 0);
        // keys of instance 0: 0, 9, 9, 8, 8; of instance 1: 5, 4, 4, 13, 13
        Check.due("in their order", "k0=1\nk5=2\nk9=9\nk4=8\nk9=25\nk8=22\nk8=51\nk4=23\nk13=23\nk13=53\n",
                () -> shown);
        BarrierFlow spread = Flows.of(PAIR);
        spread.run(5);
        spread.begin(true);
        spread.run(1);
        spread.rescale(1);
        spread.rescale(4);
        // keys 8 and 8 of group 0, key 4 of group 4, keys 13 and 13 of group 5
        Check.due("to the new owners", "0+0 0+0 2+0 0+0 0+0 0+0 0+0 0+0 3+0 0+0 0+0 0+0 ", () -> channels(spread));
    }

    private static void checkpointHasThemThere() {
        Doc.says("section 5", "The latest completed checkpoint has them there, too, from then on.");
        BarrierFlow flow = keptOfTwo(1);
        flow.rescale(1);
        flow.run(3);
        flow.fail();
        Check.due("in the channel of the one instance", "0+0 4+0 0+0 0+0 0+0 ", () -> channels(flow));
        int[] sums = {1, 23, 31, 46};
        for (int due : sums) {
            flow.run(1);
            Check.due("in the same order", due, () -> flow.sum(1) + flow.sum(9) + flow.sum(5));
        }
        for (int s = 0; s < 4; s++) {
            int source = s;
            BarrierFlow kept = keptOfTwo(s);
            // from each number of instances to each other one
            for (int n : new int[] {1, 3, 2, 4, 3, 4, 2, 1, 4, 1, 2, 3, 1}) {
                kept.rescale(n);
                kept.run(2);
                kept.fail();
                int first = kept.owner(source);
                int second = kept.owner(4 + source);
                Check.due("of " + n, n == 1 ? "4 4" : "2 2", () -> kept.inChannel(source, first, false) + " "
                        + kept.inChannel(source, second, false));
                Check.due("all that was kept", 4, () -> kept.completed(4));
            }
        }
    }

    private interface Change {
        void on(BarrierFlow flow);
    }

    private static void changes() {
        Doc.says("section 6", "Changes are the methods of the section \"Changes\" below, apart from undo, when they succeed.");
        Change[] changes = {f -> f.run(1), f -> f.begin(true), f -> f.fail(), f -> f.rescale(1), f -> f.setRoom(4),
            f -> f.setLag(0, 0), f -> f.setEvery(0, false)};
        for (int c = 0; c < changes.length; c++) {
            BarrierFlow flow = new BarrierFlow();
            changes[c].on(flow);
            Check.due("change " + c + " is one, whatever it changes", 1, () -> flow.count(10));
            Check.due("it can be undone", 0, flow::undo);
            Check.due("all is as at first", Flows.look(new BarrierFlow()), () -> Flows.look(flow));
            Check.tooEarly("undo is none", flow::undo);
        }
        BarrierFlow flow = new BarrierFlow();
        Flows.find(flow, "a");
        Flows.parse(flow, "x");
        Flows.look(flow);
        flow.completesIn(1);
        flow.wouldTake(true);
        flow.wouldKeep();
        flow.quietIn();
        flow.bestInstances(1);
        flow.printSink(0);
        flow.outputByte(0);
        flow.saveState();
        Check.due("other methods are none", 0, () -> flow.count(10));
        flow.begin(true);
        Check.tooEarly("a second one", () -> flow.begin(true));
        Check.illegal("0 ticks", () -> flow.run(0));
        Check.illegal("0 instances", () -> flow.rescale(0));
        Check.illegal("a room of 0", () -> flow.setRoom(0));
        Check.illegal("a lag of 10", () -> flow.setLag(0, 10));
        Check.outside("source 1", () -> flow.setLag(1, 0));
        Check.illegal("every 100", () -> flow.setEvery(100, true));
        Check.due("what does not succeed is none", 1, () -> flow.count(10));
    }

    private static void sixChanges() {
        Doc.says("section 6", "The latest 6 changes can be undone;");
        for (int many = 1; many <= 14; many++) {
            BarrierFlow flow = Flows.of("source a records 50 seed 0;every 3;");
            for (int n = 0; n < many; n++) {
                flow.run(1);
            }
            int left = Math.min(many, 6);
            Check.due(many + " changes", left, () -> flow.count(10));
            for (int n = 1; n <= left; n++) {
                int still = left - n;
                int time = many - n;
                Check.due("undo " + n + " of " + many, still, flow::undo);
                Check.due("the time", time, () -> flow.count(5));
                if (n == 1 || n == 6) {
                    BarrierFlow other = Flows.of("source a records 50 seed 0;every 3;");
                    if (time > 0) {
                        other.run(time);
                    }
                    Check.due("all is as it was", Flows.look(other), () -> Flows.look(flow));
                }
            }
            Check.tooEarly("no more", flow::undo);
        }
        BarrierFlow mixed = Flows.of("source a records 50 seed 0;");
        for (int n = 1; n <= 6; n++) {
            mixed.setRoom(n);
        }
        Check.due("undone", 5, mixed::undo);
        Check.due("undone", 4, mixed::undo);
        mixed.setRoom(9);
        Check.due("five", 5, () -> mixed.count(10));
        mixed.setRoom(8);
        mixed.setRoom(7);
        Check.due("six again", 6, () -> mixed.count(10));
        for (int room : new int[] {8, 9, 4, 3, 2, 1}) {
            mixed.undo();
            Check.due("the room", room, () -> mixed.count(3));
        }
        Check.tooEarly("the seventh of before is gone", mixed::undo);
    }

    private static void whatUndoLeaves() {
        Doc.says("section 6", "the input buffer, the error, the output and the saved state stay as they are.");
        BarrierFlow flow = Flows.of("source a records 9 seed 0;source b records 9 seed 0;every 2;");
        flow.run(4);
        flow.setRoom(2);
        flow.run(9);
        flow.saveState();
        String output = Flows.print(flow, 0);
        Check.due("something is shown", true, () -> output.length() > 9);
        Flows.parse(flow, "room 0;");
        Flows.type(flow, "b");
        flow.undo();
        flow.undo();
        Check.due("two are undone", "4 4", () -> flow.count(5) + " " + flow.count(3));
        Check.due("the buffer", 1, flow::find);
        Check.due("the error", "2 5", () -> flow.errorCode() + " " + flow.errorOffset());
        Check.due("the output", output, () -> Flows.output(flow));
        Check.due("the saved state", "13 2", () -> flow.restoreState() + " " + flow.count(3));
    }

    private static void firstException() {
        Doc.says("exceptions", "if several ones apply, IndexOutOfBoundsException comes first, then IllegalArgumentException, "
                + "then IllegalStateException, then NoSuchElementException.");
        BarrierFlow flow = new BarrierFlow();
        for (int source : new int[] {-1, 1, Integer.MIN_VALUE, Integer.MAX_VALUE}) {
            for (int lag : new int[] {-1, 10, Integer.MIN_VALUE, Integer.MAX_VALUE}) {
                Check.outside("no such source, lag out of range", () -> flow.setLag(source, lag));
            }
        }
        for (int wrong : new int[] {-1, 2, Integer.MIN_VALUE, Integer.MAX_VALUE}) {
            Check.outside("no such part, no such result", () -> flow.shown(0, 0, wrong));
            Check.outside("no such part, no result before the first", () -> flow.shown(0, -1, wrong));
            Check.outside("no such sink, no such result", () -> flow.shown(wrong, 0, 0));
            Check.outside("no such sink, no such part", () -> flow.shown(wrong, 0, wrong));
        }
        flow.begin(false);
        Check.illegal("what is out of range, whether one is in progress or not", () -> flow.progress(7));
        flow.undo();
        Check.illegal("and if none is", () -> flow.progress(7));
        Check.illegal("and if none was completed", () -> flow.completed(6));
        Check.illegal("ticks, and none is in progress", () -> flow.completesIn(0));
        Check.illegal("many, and there is no such source", () -> flow.expected(3, 0));
    }

    /** A flow of two sources, two instances and one sink in the midst of a checkpoint. */
    private static BarrierFlow busy() {
        BarrierFlow flow = Flows.of(PAIR);
        flow.run(9);
        flow.begin(true);
        flow.run(2);
        flow.printSink(0);
        flow.saveState();
        Flows.parse(flow, "room 10;");
        flow.setLag(1, 9);
        flow.begin(true);
        flow.run(2);
        Flows.type(flow, "b");
        return flow;
    }

    /** What is beside the look: it ends the flow. */
    private static void unchanged(BarrierFlow flow, String output) {
        Check.due("changes that can be undone", 6, () -> flow.count(10));
        Check.due("the buffer", 1, flow::find);
        Check.due("the error", "2 5", () -> flow.errorCode() + " " + flow.errorOffset());
        Check.due("the output", output, () -> Flows.output(flow));
        Check.due("an undo", 5, flow::undo);
        Check.due("of the latest change", 11, () -> flow.count(5));
        Check.due("the saved state", 11, flow::restoreState);
    }

    private static void throwsChangeNothing() {
        Doc.says("exceptions", "A method that throws changes nothing.");
        for (int wrong : new int[] {Integer.MIN_VALUE, -1, 501, Integer.MAX_VALUE}) {
            BarrierFlow flow = busy();
            String output = Flows.output(flow);
            String look = Flows.look(flow);
            Check.due("something is put out", true, () -> output.length() > 20);
            Check.outside("source", () -> flow.source(wrong, 0));
            Check.outside("record", () -> flow.record(0, wrong, 0));
            Check.illegal("owner", () -> flow.owner(wrong));
            Check.illegal("sum", () -> flow.sum(wrong));
            Check.outside("instance", () -> flow.instance(wrong, 0));
            Check.outside("sink", () -> flow.sink(0, wrong));
            Check.noSuch("shown", () -> flow.shown(0, wrong, 0));
            Check.outside("inChannel", () -> flow.inChannel(0, wrong, true));
            Check.outside("outChannel", () -> flow.outChannel(wrong, 0, true));
            Check.illegal("progress", () -> flow.progress(wrong));
            Check.illegal("completed", () -> flow.completed(wrong));
            Check.outside("notedPosition", () -> flow.notedPosition(wrong));
            Check.illegal("notedSum", () -> flow.notedSum(wrong));
            Check.illegal("shownOf", () -> flow.shownOf(wrong));
            Check.illegal("expected", () -> flow.expected(wrong, 1));
            Check.illegal("run", () -> flow.run(wrong));
            Check.tooEarly("begin", () -> flow.begin(wrong > 0));
            Check.illegal("rescale", () -> flow.rescale(wrong));
            Check.illegal("setRoom", () -> flow.setRoom(wrong));
            Check.illegal("setLag", () -> flow.setLag(0, wrong));
            Check.outside("setLag", () -> flow.setLag(wrong, 1));
            Check.illegal("setEvery", () -> flow.setEvery(wrong, true));
            Check.illegal("completesIn", () -> flow.completesIn(wrong));
            Check.illegal("bestInstances", () -> flow.bestInstances(wrong));
            Check.outside("printSink", () -> flow.printSink(wrong));
            Check.due("all is as it was", look, () -> Flows.look(flow));
            unchanged(flow, output);
        }
        BarrierFlow fresh = new BarrierFlow();
        Check.tooEarly("undo", fresh::undo);
        Check.tooEarly("restoreState", fresh::restoreState);
        Check.due("a new one is as it was", Flows.look(new BarrierFlow()), () -> Flows.look(fresh));
        Check.due("nothing can be undone", 0, () -> fresh.count(10));
    }

    private static void answersChangeNothing() {
        BarrierFlow flow = busy();
        String output = Flows.output(flow);
        String look = Flows.look(flow);
        Doc.says("promise 3", "false, with no change, if length is negative or greater than the length of the buffer.");
        Check.due("false", false, () -> flow.truncate(-1));
        Check.due("false, too", false, () -> flow.truncate(2));
        Doc.says("promise 36", "what comes if ticks pass and nothing else happens; nothing changes");
        Check.due("NONE of count", -1, () -> flow.count(12));
        Check.due("NONE of outputByte", -1, () -> flow.outputByte(-1));
        Check.due("NONE of wouldTake", -1, () -> flow.wouldTake(true));
        Check.due("NONE of wouldKeep", -1, flow::wouldKeep);
        Check.due("NONE of completesIn", -1, () -> flow.completesIn(1));
        Check.due("NONE of expected", -1, () -> flow.expected(3, 1));
        Check.due("all is as it was", look, () -> Flows.look(flow));
        unchanged(flow, output);
    }
}
