/** The boundary cases of promises 28 to 35: the changes. */
final class EdgesOfChanges {
    private static final int LEAST = Integer.MIN_VALUE;
    private static final int MOST = Integer.MAX_VALUE;

    private EdgesOfChanges() {
    }

    static void all() {
        run();
        runCounts();
        begin();
        fail();
        rescale();
        rescaleMoves();
        setRoom();
        roomKeepsWhatIsThere();
        setLag();
        setEvery();
        undo();
    }

    private interface OfNumber {
        Object answer(int number);
    }

    /** Numbers beside a range are refused, and change nothing that can be seen. */
    private static void refused(BarrierFlow flow, int least, int most, OfNumber call) {
        String before = Flows.look(flow);
        int changes = flow.count(10);
        for (int wrong : new int[] {least - 1, most + 1, LEAST, MOST}) {
            Check.illegal("of " + wrong, () -> call.answer(wrong));
        }
        Check.due("nothing changed", before, () -> Flows.look(flow));
        Check.due("nothing more can be undone", changes, () -> flow.count(10));
    }

    private static BarrierFlow busy() {
        BarrierFlow flow = Flows.of("source a records 50 seed 0;source b records 50 seed 1 lag 2;instances 2;room 3;every 6;");
        flow.run(15);
        return flow;
    }

    private static void run() {
        Doc.says("promise 28", "1 to 500");
        BarrierFlow flow = new BarrierFlow();
        Check.due("1", 0, () -> flow.run(1));
        Check.due("the time", 1, () -> flow.count(5));
        Check.due("500", 0, () -> flow.run(500));
        Check.due("the time then", 501, () -> flow.count(5));
        Doc.says("promise 28", "Throws `IllegalArgumentException` if ticks is out of range");
        BarrierFlow busy = busy();
        refused(busy, 1, 500, busy::run);
        Doc.says("promise 28", "Lets ticks pass.");
        BarrierFlow steps = busy();
        busy.run(23);
        for (int n = 0; n < 23; n++) {
            steps.run(1);
        }
        Check.due("23 times 1 is 23", Flows.look(busy), () -> Flows.look(steps));
    }

    private static void runCounts() {
        Doc.says("promise 28", "Returns the number of checkpoints that were completed in them.");
        BarrierFlow each = Flows.of("source a records 0 seed 0;every 1;");
        Check.due("one in each tick", 500, () -> each.run(500));
        BarrierFlow slow = Flows.of("source a records 0 seed 0 lag 9;every 1;");
        Check.due("none in nine ticks", 0, () -> slow.run(9));
        Check.due("one in the tenth", 1, () -> slow.run(1));
        Check.due("one in the next ten", 1, () -> slow.run(10));
        Check.due("fifty in 500", 50, () -> slow.run(500));
        slow.run(9);
        slow.fail();
        Check.due("one that ended is none", 0, () -> slow.run(9));
    }

    private static void begin() {
        Doc.says("promise 29", "Begins a checkpoint.");
        BarrierFlow flow = Flows.of("source a records 0 seed 0 lag 1;every 5;");
        flow.run(3);
        Check.due("the second, behind that of time 0", 2, () -> flow.begin(true));
        Check.due("it overtakes, since time 3", "1 3", () -> flow.progress(2) + " " + flow.progress(1));
        Doc.says("promise 29", "Throws `IllegalStateException` if one is in progress");
        String look = Flows.look(flow);
        Check.tooEarly("an overtaking one", () -> flow.begin(true));
        Check.tooEarly("an aligning one", () -> flow.begin(false));
        Check.due("nothing changed", look, () -> Flows.look(flow));
        flow.run(1);
        Check.tooEarly("a tick before it is completed", () -> flow.begin(false));
        flow.run(1);
        Check.due("it is completed", 3, () -> flow.begin(false));
        Check.due("it aligns", 0, () -> flow.progress(2));
        flow.fail();
        Check.due("behind a failure", 4, () -> flow.begin(false));
        flow.rescale(3);
        Check.due("behind a rescaling", 5, () -> flow.begin(true));
        flow.undo();
        Check.due("the fifth again", 5, () -> flow.begin(false));
        BarrierFlow own = Flows.of("source a records 0 seed 0 lag 1;every 5;");
        own.run(1);
        Check.tooEarly("one that began by itself", () -> own.begin(true));
        Check.due("the first one", 1, () -> new BarrierFlow().begin(true));
    }

    private static void fail() {
        Doc.says("promise 30", "Lets the flow fail (section 5).");
        BarrierFlow flow = Flows.of("source a records 3 seed 0;source b records 2 seed 0;room 9;");
        Check.due("none was sent", 0, flow::fail);
        flow.run(9);
        Check.due("all", 5, flow::fail);
        Check.due("none since", 0, flow::fail);
        Check.due("three failures", 3, () -> flow.count(8));
        flow.run(1);
        flow.begin(true);
        flow.run(1);
        Check.due("of the second tick", 2, flow::fail);
        Check.due("back to the checkpoint", "1 1", () -> flow.source(0, 3) + " " + flow.source(1, 3));
        flow.run(1);
        Check.due("again", 2, flow::fail);
        flow.undo();
        Check.due("as often as it is undone", 2, flow::fail);
    }

    private static void rescale() {
        Doc.says("promise 31", "1 to 4");
        BarrierFlow flow = busy();
        for (int n : new int[] {1, 4, 2, 3}) {
            int instances = n;
            flow.rescale(instances);
            Check.due("instances", instances, () -> flow.count(1));
        }
        Doc.says("promise 31", "Throws `IllegalArgumentException` if instances is out of range");
        refused(flow, 1, 4, flow::rescale);
        Doc.says("promise 31", "Rescales the flow (section 5).");
        Check.due("failures", 4, () -> flow.count(8));
        BarrierFlow same = busy();
        BarrierFlow failed = busy();
        Check.due("none moves to as many", 0, () -> same.rescale(2));
        failed.fail();
        Check.due("to as many is a failure", Flows.look(failed), () -> Flows.look(same));
    }

    private static void rescaleMoves() {
        Doc.says("promise 31", "Returns the number of groups that have another owner then.");
        int[][] moved = {{0, 4, 5, 6}, {4, 0, 3, 6}, {5, 3, 0, 5}, {6, 6, 5, 0}};
        for (int before = 1; before <= 4; before++) {
            for (int after = 1; after <= 4; after++) {
                int due = moved[before - 1][after - 1];
                int instances = after;
                BarrierFlow flow = Flows.of("source a records 0 seed 0;instances " + before + ";");
                Check.due("from " + before + " to " + after, due, () -> flow.rescale(instances));
            }
        }
    }

    private static void setRoom() {
        Doc.says("promise 32", "1 to 9");
        BarrierFlow flow = Flows.of("source a records 50 seed 0;source b records 0 seed 0 lag 9;");
        Check.due("9", 4, () -> flow.setRoom(9));
        Check.due("1", 9, () -> flow.setRoom(1));
        Check.due("1 once more", 1, () -> flow.setRoom(1));
        Check.due("the room", 1, () -> flow.count(3));
        Doc.says("promise 32", "Throws `IllegalArgumentException` if room is out of range");
        refused(flow, 1, 9, flow::setRoom);
        Doc.says("promise 32", "Sets the room of all channels;");
        flow.begin(false);
        flow.run(2);
        Check.due("one of a room of 1", 1, () -> flow.inChannel(0, 0, false));
        flow.setRoom(9);
        flow.run(3);
        Check.due("more of a room of 9", 4, () -> flow.inChannel(0, 0, false));
    }

    private static void roomKeepsWhatIsThere() {
        Doc.says("promise 32", "what is in them stays.");
        BarrierFlow flow = Flows.of("source a records 50 seed 0;source b records 0 seed 0 lag 9;room 9;");
        flow.begin(false);
        flow.run(9);
        Check.due("nine", 9, () -> flow.inChannel(0, 0, false));
        flow.setRoom(1);
        Check.due("nine of 1", 9, () -> flow.inChannel(0, 0, false));
        flow.run(1);
        Check.due("none is lost or sent", "9 9", () -> flow.inChannel(0, 0, false) + " " + flow.source(0, 3));
        flow.run(9);
        Check.due("all are handled, none is sent before", "9 9", () -> flow.instance(0, 1) + " " + flow.source(0, 3));
        flow.run(1);
        Check.due("then one is", "10 10", () -> flow.instance(0, 1) + " " + flow.source(0, 3));
        BarrierFlow results = Flows.of("source a records 40 seed 0;source b records 40 seed 1;instances 2;room 9;");
        results.run(6);
        results.setRoom(2);
        Check.due("results", "3 3", () -> results.outChannel(0, 0, false) + " " + results.outChannel(1, 0, false));
        results.run(1);
        Check.due("none is lost or new", "2 3", () -> results.outChannel(0, 0, false) + " "
                + results.outChannel(1, 0, false));
    }

    private static void setLag() {
        Doc.says("promise 33", "0 to 9");
        BarrierFlow flow = Flows.of("source a records 0 seed 0 lag 4;source b records 0 seed 0;");
        Check.due("9", 4, () -> flow.setLag(0, 9));
        Check.due("0", 9, () -> flow.setLag(0, 0));
        Check.due("of the last source", 0, () -> flow.setLag(1, 9));
        Check.due("the lags", "0 9", () -> flow.source(0, 2) + " " + flow.source(1, 2));
        Doc.says("promise 33", "Throws `IllegalArgumentException` if lag is out of range");
        refused(flow, 0, 9, n -> flow.setLag(1, n));
        Doc.says("promise 33", "Throws `IndexOutOfBoundsException` if there is no such source");
        String look = Flows.look(flow);
        for (int wrong : new int[] {-1, 2, LEAST, MOST}) {
            Check.outside("source " + wrong, () -> flow.setLag(wrong, 0));
        }
        Check.due("nothing changed", look, () -> Flows.look(flow));
        Doc.says("promise 33", "Sets the lag of a source.");
        flow.begin(true);
        flow.run(4);
        Check.due("source 1 waits", 1, () -> flow.progress(3));
        flow.setLag(1, 5);
        flow.run(1);
        Check.due("five ticks have not passed", 1, () -> flow.progress(3));
        flow.run(1);
        Check.due("five ticks have passed", 1, () -> flow.completed(0));
        BarrierFlow later = Flows.of("source a records 0 seed 0;source b records 0 seed 0 lag 9;");
        later.begin(true);
        later.run(1);
        later.setLag(0, 9);
        later.setLag(1, 0);
        Check.due("a source that has put its barriers has put them", 1, () -> later.run(1));
    }

    private static void setEvery() {
        Doc.says("promise 34", "0 to 99");
        BarrierFlow flow = Flows.of("source a records 0 seed 0;every 7;");
        Check.due("99", 7, () -> flow.setEvery(99, true));
        Check.due("0", 99, () -> flow.setEvery(0, true));
        Doc.says("promise 34", "Returns every before.");
        Check.due("0 before", 0, () -> flow.setEvery(7, false));
        Check.due("7 before", 7, () -> flow.setEvery(7, false));
        Doc.says("promise 34", "Throws `IllegalArgumentException` if every is out of range");
        refused(flow, 0, 99, n -> flow.setEvery(n, true));
        Doc.says("promise 34", "Sets every, and whether checkpoints that begin by themselves overtake.");
        flow.setEvery(3, true);
        Check.due("set", "3 1", () -> flow.count(4) + " " + flow.count(11));
        Check.due("at times 0, 3, 6", 3, () -> flow.run(7));
        Check.due("they overtook", 1, () -> flow.completed(3));
        flow.setEvery(3, false);
        Check.due("at time 9", 1, () -> flow.run(3));
        Check.due("it aligned", 0, () -> flow.completed(3));
        flow.setEvery(5, false);
        Check.due("at time 10", 1, () -> flow.run(1));
        flow.setEvery(0, true);
        Check.due("none by itself", 0, () -> flow.run(500));
        flow.begin(false);
        flow.run(1);
        Check.due("one that does not begin by itself", 0, () -> flow.completed(3));
    }

    private static void undo() {
        Doc.says("promise 35", "Throws `IllegalStateException` if there is none");
        BarrierFlow flow = Flows.of("source a records 9 seed 0;");
        Check.tooEarly("at first", flow::undo);
        flow.run(1);
        Check.due("one", 0, flow::undo);
        Check.tooEarly("it was undone", flow::undo);
        flow.run(1);
        flow.saveState();
        flow.restoreState();
        Check.tooEarly("behind restoreState", flow::undo);
        flow.run(1);
        Flows.parse(flow, "x");
        Check.due("behind a wrong text", 0, flow::undo);
        flow.run(1);
        Flows.parse(flow, "source a records 9 seed 0;");
        Check.tooEarly("behind a text", flow::undo);
        Check.due("nothing changed", Flows.look(Flows.of("source a records 9 seed 0;")), () -> Flows.look(flow));
        Doc.says("promise 35", "Undoes the latest change that was not undone yet.");
        for (int room = 5; room <= 9; room++) {
            flow.setRoom(room);
        }
        flow.setRoom(1);
        int[] rooms = {9, 8, 7};
        for (int n = 0; n < 3; n++) {
            int left = 5 - n;
            Check.due("changes left", left, flow::undo);
            int room = rooms[n];
            Check.due("the room", room, () -> flow.count(3));
        }
        Doc.says("promise 35", "Undoes the latest change that was not undone yet.");
        flow.setRoom(2);
        Check.due("a new change first", 3, flow::undo);
        Check.due("the room before it", 7, () -> flow.count(3));
        Check.due("then the older ones", 2, flow::undo);
        Check.due("the room before those", 6, () -> flow.count(3));
        goesOnAsBefore();
    }

    // what cannot be seen is undone, too: from which source an instance takes next, and from which instance a sink
    private static void goesOnAsBefore() {
        String text = "source a records 9 seed 0;source b records 9 seed 1;source c records 9 seed 0;instances 2;every 7;";
        for (int ticks = 1; ticks <= 8; ticks++) {
            for (int more = 1; more <= 3; more++) {
                BarrierFlow flow = Flows.of(text);
                flow.run(ticks);
                flow.run(more);
                flow.undo();
                flow.run(4);
                BarrierFlow other = Flows.of(text);
                other.run(ticks);
                other.run(4);
                Check.due("as if " + more + " behind " + ticks + " had not been", Flows.look(other),
                        () -> Flows.look(flow));
            }
        }
    }
}
