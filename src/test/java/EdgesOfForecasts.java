/** The boundary cases of promises 36 to 44: forecasts, output and state. */
final class EdgesOfForecasts {
    private static final int LEAST = Integer.MIN_VALUE;
    private static final int MOST = Integer.MAX_VALUE;
    private static final String PAIR = "source a records 40 seed 0;source b records 40 seed 1;instances 2;room 9;";

    private EdgesOfForecasts() {
    }

    static void all() {
        completesIn();
        wouldTake();
        wouldKeep();
        quietNow();
        quietInAThousand();
        neverQuiet();
        bestInstances();
        nothingChanges();
        printSink();
        printAll();
        outputByte();
        saveState();
        restoreState();
    }

    private interface OfNumber {
        Object answer(int number);
    }

    private static void refused(OfNumber call) {
        for (int wrong : new int[] {0, -1, 501, LEAST, MOST}) {
            Check.illegal("of " + wrong, () -> call.answer(wrong));
        }
    }

    private static void completesIn() {
        for (int lag = 0; lag <= 9; lag++) {
            BarrierFlow flow = Flows.of("source a records 0 seed 0 lag " + lag + ";");
            int due = lag + 1;
            flow.begin(true);
            Doc.says("promise 36", "Forecasts when the checkpoint in progress is completed.");
            Check.due("lag " + lag + " of 99", due, () -> flow.completesIn(99));
            Doc.says("promise 36", "1 to 500");
            Check.due("lag " + lag + " of 500", due, () -> flow.completesIn(500));
            Check.due("lag " + lag + " of 1", lag == 0 ? 1 : -1, () -> flow.completesIn(1));
            Doc.says("promise 36", "NONE if it is not in these ticks, or none is in progress.");
            Check.due("lag " + lag + " of just as many", due, () -> flow.completesIn(due));
            if (lag > 0) {
                Check.due("lag " + lag + " of one less", -1, () -> flow.completesIn(due - 1));
            }
            flow.run(due);
            Check.due("it is completed", -1, () -> flow.completesIn(500));
            flow.begin(false);
            flow.fail();
            Check.due("it ended", -1, () -> flow.completesIn(500));
        }
        BarrierFlow own = Flows.of("source a records 0 seed 0;every 1;");
        Check.due("one would begin, none is in progress", -1, () -> own.completesIn(500));
        BarrierFlow next = Flows.of("source a records 0 seed 0 lag 2;every 1;");
        next.run(4);
        Check.due("the second one, begun at time 3", 2, () -> next.completesIn(500));
        Doc.says("promise 36", "Throws `IllegalArgumentException` if ticks is out of range");
        refused(own::completesIn);
        refused(next::completesIn);
    }

    private static void wouldTake() {
        Doc.says("promise 37", "how many ticks it would take if it began now.");
        BarrierFlow none = new BarrierFlow();
        Check.due("the least", "1 1", () -> none.wouldTake(true) + " " + none.wouldTake(false));
        BarrierFlow lag = Flows.of("source a records 0 seed 0;source b records 0 seed 0 lag 9;instances 4;sinks 2;");
        Check.due("nine ticks of lag, and one", 10, () -> lag.wouldTake(true));
        Check.due("four barriers for each sink", 13, () -> lag.wouldTake(false));
        BarrierFlow flow = Flows.of(PAIR);
        flow.run(4);
        Check.due("overtaking", 1, () -> flow.wouldTake(true));
        Check.due("aligning, behind four results and two barriers", 6, () -> flow.wouldTake(false));
        flow.begin(false);
        Check.due("as many indeed", 6, () -> flow.completesIn(500));
        Doc.says("promise 37", "NONE if one is in progress, or it would not be completed in 500 ticks.");
        Check.due("an overtaking one", -1, () -> flow.wouldTake(true));
        Check.due("an aligning one", -1, () -> flow.wouldTake(false));
        flow.run(5);
        Check.due("a tick before it is completed", -1, () -> flow.wouldTake(true));
        flow.run(1);
        Check.due("none is in progress", 1, () -> flow.wouldTake(true));
        flow.begin(false);
        flow.fail();
        Check.due("it ended", 1, () -> flow.wouldTake(true));
        BarrierFlow own = Flows.of("source a records 0 seed 0 lag 2;every 1;overtake;");
        Check.due("though one begins by itself then", 3, () -> own.wouldTake(false));
    }

    private static void wouldKeep() {
        Doc.says("promise 38", "Forecasts what an overtaking checkpoint that began now would keep.");
        BarrierFlow none = new BarrierFlow();
        Check.due("the least", 0, none::wouldKeep);
        BarrierFlow flow = Flows.of(PAIR + "overtake;every 50;");
        flow.run(4);
        Check.due("four results", 4, flow::wouldKeep);
        flow.setEvery(0, false);
        Check.due("whatever begins by itself", 4, flow::wouldKeep);
        BarrierFlow lag = Flows.of("source a records 0 seed 0;source b records 9 seed 0 lag 5;");
        Check.due("what is taken in five ticks", 5, lag::wouldKeep);
        Doc.says("promise 38", "NONE if one is in progress, or it would not be completed in 500 ticks.");
        lag.begin(true);
        Check.due("an overtaking one", -1, lag::wouldKeep);
        lag.run(5);
        Check.due("a tick before it is completed", -1, lag::wouldKeep);
        lag.run(1);
        Check.due("as many indeed", 5, () -> lag.completed(4));
        Check.due("none is in progress; three records are left, and all are taken", 3, lag::wouldKeep);
        flow.begin(false);
        Check.due("an aligning one", -1, flow::wouldKeep);
        flow.undo();
        Check.due("undone", 4, flow::wouldKeep);
    }

    private static void quietNow() {
        Doc.says("promise 39", "Returns the number of ticks, 0 if it is so now;");
        Check.due("a new flow", 0, () -> new BarrierFlow().quietIn());
        Doc.says("promise 39", "Forecasts how many ticks it takes until all records have been sent, all channels are without records "
                + "and results, and no sink has open results or closed ones that are not shown.");
        BarrierFlow sent = Flows.of("source a records 1 seed 0;every 4;overtake;");
        // the checkpoint of time 0 began before the record was sent, that of time 4 closes it, time 5 shows it
        Check.due("a record is left", 6, sent::quietIn);
        sent.run(1);
        Check.due("a result is open", 5, sent::quietIn);
        sent.run(4);
        Check.due("it is closed", "1 1", () -> sent.sink(0, 1) + " " + sent.quietIn());
        sent.run(1);
        Check.due("it is shown", "1 0", () -> sent.sink(0, 2) + " " + sent.quietIn());
        BarrierFlow channel = Flows.of("source a records 1 seed 0;source b records 0 seed 0 lag 9;every 1;");
        channel.run(1);
        // blocked until time 9; taken in tick 10, in which another one begins that is completed in tick 19
        Check.due("a record waits in a channel", "1 20", () -> channel.inChannel(0, 0, false) + " " + channel.quietIn());
        BarrierFlow results = Flows.of("source a records 1 seed 0;source b records 1 seed 1;instances 2;overtake;every 1;");
        results.run(1);
        Check.due("a result waits in a channel", "0 1", () -> results.outChannel(0, 0, false) + " "
                + results.outChannel(1, 0, false));
        // kept and taken in tick 1, closed in tick 2, shown in tick 3
        Check.due("until it is shown", 3, results::quietIn);
        // the result in the channel is kept, the open one is closed, and shown by the failure
        results.begin(true);
        results.run(1);
        results.fail();
        Check.due("nothing else is left", "1 0 1 0 0 1", () -> results.outChannel(1, 0, false) + " "
                + results.instance(1, 3) + " " + results.source(1, 3) + " " + results.sink(0, 0) + " "
                + results.sink(0, 1) + " " + results.sink(0, 2));
        Check.due("until it is shown, too", 3, results::quietIn);
        BarrierFlow last = Flows.of("source a records 0 seed 0;source b records 0 seed 0;source c records 0 seed 0;"
                + "source d records 1 seed 0;instances 4;sinks 2;every 4;overtake;");
        Check.due("a record of the last source", 6, last::quietIn);
        last.run(6);
        Check.due("none of any source", 0, last::quietIn);
        BarrierFlow barriers = Flows.of("source a records 0 seed 0;source b records 0 seed 0;");
        barriers.begin(false);
        barriers.run(1);
        Check.due("barriers are no records", "1 0", () -> barriers.inChannel(1, 0, true) + " " + barriers.quietIn());
    }

    /*
     * Each checkpoint blocks source 0 until source 1 puts its barrier, nine ticks later: one record is handled in
     * ten ticks, the last of n records at time 10 n; its result is shown at time 10 n + 10.
     */
    private static void quietInAThousand() {
        Doc.says("promise 39", "NONE if it is not so within 1000 ticks.");
        BarrierFlow flow = Flows.of("source a records 99 seed 0;source b records 0 seed 0 lag 9;every 1;room 1;");
        Check.due("1001", -1, flow::quietIn);
        flow.run(1);
        Check.due("1000", 1000, flow::quietIn);
        flow.run(1);
        Check.due("999", 999, flow::quietIn);
        flow.run(499);
        flow.run(499);
        Check.due("1", 1, flow::quietIn);
        flow.run(1);
        Check.due("0", 0, flow::quietIn);
        BarrierFlow more = Flows.of("source a records 200 seed 0;source b records 0 seed 0 lag 9;every 1;room 1;");
        Check.due("2011", -1, more::quietIn);
    }

    private static void neverQuiet() {
        BarrierFlow flow = Flows.of("source a records 1 seed 0;");
        Check.due("without a checkpoint", -1, flow::quietIn);
        flow.run(500);
        Check.due("an open result", -1, flow::quietIn);
        flow.begin(true);
        Check.due("closed in a tick, shown in another one", 2, flow::quietIn);
        flow.run(1);
        flow.fail();
        Check.due("shown by the failure", 0, flow::quietIn);
    }

    private static void bestInstances() {
        Doc.says("promise 40", "Finds the number of instances with which, if the flow was rescaled now, most records would be handled "
                + "in the next ticks.");
        // keys 0; 0 and 5; 0, 5 and 7; 0, 5, 2 and 7: each of an instance of its own
        String[] texts = {"source a records 9 seed 0;", "source a records 9 seed 0;source b records 9 seed 1;",
            "source a records 9 seed 0;source b records 9 seed 1;source c records 0 seed 0;source d records 9 seed 1;",
            "source a records 9 seed 0;source b records 9 seed 1;source c records 9 seed 0;source d records 9 seed 1;"};
        for (int n = 1; n <= 4; n++) {
            int due = n;
            for (int instances = 1; instances <= 4; instances++) {
                BarrierFlow flow = Flows.of(texts[n - 1] + "instances " + instances + ";");
                Check.due(n + " sources", due, () -> flow.bestInstances(1));
                flow.run(3);
                Check.due(n + " sources from the first record again", due, () -> flow.bestInstances(1));
            }
        }
        Doc.says("promise 40", "Returns the number of instances, the smallest one on a tie.");
        BarrierFlow flow = Flows.of(texts[3]);
        Check.due("all are handled in 500 ticks", 1, () -> flow.bestInstances(500));
        Check.due("none is there", 1, () -> new BarrierFlow().bestInstances(500));
        flow.run(50);
        flow.begin(true);
        flow.run(1);
        Check.due("none is left", 1, () -> flow.bestInstances(1));
        // five records of key 1 and so on are kept: they count when they are handled again
        BarrierFlow kept = Flows.of("source a records 0 seed 0;source b records 4 seed 0 lag 5;");
        kept.begin(true);
        kept.run(6);
        Check.due("kept: keys 1, 5, 5, 9 for two instances", "4 2 2", () -> kept.completed(4) + " "
                + kept.bestInstances(1) + " " + kept.bestInstances(2));
        Check.due("kept, in four ticks", 1, () -> kept.bestInstances(4));
        Doc.says("promise 40", "1 to 500");
        Check.due("1", 4, () -> Flows.of(texts[3]).bestInstances(1));
        Check.due("500", 1, () -> Flows.of(texts[3]).bestInstances(500));
        Doc.says("promise 40", "Throws `IllegalArgumentException` if ticks is out of range");
        refused(flow::bestInstances);
    }

    private static void nothingChanges() {
        Doc.says("promise 36", "what comes if ticks pass and nothing else happens; nothing changes");
        for (int ticks = 1; ticks <= 25; ticks += 4) {
            BarrierFlow flow = Flows.of(PAIR + "every 6;overtake;");
            flow.run(ticks);
            flow.saveState();
            Flows.type(flow, "b");
            String look = Flows.look(flow);
            flow.completesIn(20);
            flow.wouldTake(true);
            flow.wouldTake(false);
            flow.wouldKeep();
            flow.quietIn();
            flow.bestInstances(20);
            int time = ticks;
            Check.due("at time " + ticks, look, () -> Flows.look(flow));
            Check.due("nothing more can be undone", 1, () -> flow.count(10));
            Check.due("the buffer", 1, flow::find);
            Check.due("the saved state", time, flow::restoreState);
            Check.due("it is the same", look, () -> Flows.look(flow));
        }
    }

    private static void printSink() {
        Doc.says("promise 41", "for each result \"k\", its key, \"=\", the sum and a line feed (byte 10).");
        BarrierFlow flow = Flows.of("source a records 8 seed 0;source b records 0 seed 0;source c records 0 seed 0;"
                + "source d records 1 seed 3;");
        Check.due("nothing is shown", 0, () -> flow.printSink(0));
        Check.due("an empty text", -1, () -> flow.outputByte(0));
        flow.run(9);
        Check.due("open ones are not shown", 0, () -> flow.printSink(0));
        flow.begin(true);
        flow.run(2);
        // the one record of source 3 comes second; keys and sums of one digit and of more
        String text = "k0=1\nk15=4\nk4=8\nk4=23\nk8=22\nk8=51\nk12=36\nk12=79\nk0=51\n";
        Check.due("bytes", text.length(), () -> flow.printSink(0));
        Check.due("the text", text, () -> Flows.output(flow));
        Doc.says("promise 41", "Writes what a sink shows to the output, in place of the text before:");
        Check.due("once more", text.length(), () -> flow.printSink(0));
        Check.due("not behind itself", text, () -> Flows.output(flow));
        BarrierFlow two = Flows.of("source a records 3 seed 0;sinks 2;");
        two.run(3);
        two.begin(true);
        two.run(2);
        Check.due("the longer one", "k4=8\nk4=23\n", () -> Flows.print(two, 1));
        Check.due("the shorter one", "k0=1\n", () -> Flows.print(two, 0));
        Doc.says("promise 41", "Throws `IndexOutOfBoundsException` if there is no such sink");
        for (int wrong : new int[] {-1, 2, LEAST, MOST}) {
            Check.outside("sink " + wrong, () -> two.printSink(wrong));
        }
        Check.outside("sink 1 of one", () -> flow.printSink(1));
        Check.due("the text before stays", "k0=1\n", () -> Flows.output(two));
        two.undo();
        two.undo();
        Check.due("an empty one in its place", "", () -> Flows.print(two, 0));
    }

    private static void printAll() {
        Doc.says("promise 41", "Returns the number of bytes.");
        BarrierFlow flow = Flows.of("source a records 200 seed 0;source b records 200 seed 1;source c records 200 seed 2;"
                + "source d records 200 seed 3;");
        flow.run(500);
        flow.run(301);
        flow.begin(true);
        flow.run(2);
        int due = 0;
        for (int s = 0; s < 4; s++) {
            due += bytesOf(s);
        }
        int bytes = due;
        Check.due("of 800 results", bytes, () -> flow.printSink(0));
        Check.due("the first byte", (int) 'k', () -> flow.outputByte(0));
        Check.due("the last byte", 10, () -> flow.outputByte(bytes - 1));
        Check.due("none behind it", -1, () -> flow.outputByte(bytes));
        StringBuilder last = new StringBuilder();
        for (int i = bytes - 9; i < bytes - 1; i++) {
            last.append((char) flow.outputByte(i));
        }
        String line = last.substring(last.indexOf("k"));
        Check.due("the last line", "k" + flow.shown(0, 799, 0) + "=" + flow.shown(0, 799, 1), () -> line);
    }

    /** The bytes that the lines of a source take, whose 200 records have the seed s. */
    private static int bytesOf(int source) {
        int[] sums = new int[4];
        int bytes = 0;
        for (int i = 0; i < 200; i++) {
            int row = (source + i * i + i / 2) % 4;
            sums[row] += (source + 7 * i) % 50 + 1;
            bytes += ("k" + (4 * row + source) + "=" + sums[row] + "\n").length();
        }
        return bytes;
    }

    private static void outputByte() {
        Doc.says("promise 42", "NONE if there is no such byte.");
        BarrierFlow flow = Flows.of("source a records 3 seed 0;");
        Check.due("no text yet", "-1 -1", () -> flow.outputByte(0) + " " + flow.outputByte(-1));
        flow.run(3);
        flow.begin(true);
        flow.run(2);
        flow.printSink(0);
        for (int wrong : new int[] {-1, 16, 17, 7999, 8000, LEAST, MOST}) {
            Check.due("byte " + wrong + " of 16", -1, () -> flow.outputByte(wrong));
        }
        Doc.says("promise 42", "index of the byte, from 0");
        String text = "k0=1\nk4=8\nk4=23\n";
        for (int i = 0; i < 16; i++) {
            int index = i;
            Check.due("byte " + i, (int) text.charAt(i), () -> flow.outputByte(index));
        }
    }

    private static void saveState() {
        Doc.says("promise 43", "Saves everything but the input buffer, the error, the output and the changes that can be undone, "
                + "in place of an earlier saved state.");
        BarrierFlow flow = Flows.of(PAIR + "every 6;overtake;");
        Check.due("at first", 0, flow::saveState);
        flow.run(9);
        flow.rescale(3);
        flow.run(2);
        flow.begin(false);
        flow.run(1);
        String look = Flows.look(flow);
        Check.due("the time", 12, flow::saveState);
        Check.due("changes can be undone", 5, () -> flow.count(10));
        Check.due("the latest one", 4, flow::undo);
        flow.setLag(1, 9);
        flow.setEvery(1, false);
        flow.setRoom(1);
        flow.rescale(4);
        flow.run(9);
        String output = Flows.print(flow, 0);
        Flows.parse(flow, "room 10;");
        Flows.type(flow, "b");
        Check.due("the later one", 12, flow::restoreState);
        Check.due("everything", look, () -> Flows.look(flow));
        Check.due("not the buffer", 1, flow::find);
        Check.due("not the error", "2 5", () -> flow.errorCode() + " " + flow.errorOffset());
        Check.due("not the output", output, () -> Flows.output(flow));
    }

    private static void restoreState() {
        Doc.says("promise 44", "Throws `IllegalStateException` if no state is saved");
        BarrierFlow flow = Flows.of(PAIR);
        Check.tooEarly("at first", flow::restoreState);
        flow.run(3);
        Check.tooEarly("still none", flow::restoreState);
        Check.due("nothing changed", "3 1", () -> flow.count(5) + " " + flow.count(10));
        Doc.says("promise 44", "Nothing can be undone then.");
        flow.saveState();
        Check.due("at once", 3, flow::restoreState);
        Check.due("none", 0, () -> flow.count(10));
        Check.tooEarly("undo", flow::undo);
        Doc.says("promise 44", "Restores the saved state, which stays saved.");
        String look = Flows.look(flow);
        for (int n = 1; n <= 3; n++) {
            flow.run(n);
            flow.fail();
            Check.due("time " + n, 3, flow::restoreState);
        }
        Check.due("as it was", look, () -> Flows.look(flow));
        BarrierFlow other = Flows.of(PAIR);
        other.run(3);
        other.run(5);
        flow.run(5);
        Check.due("and goes on as it would have", Flows.look(other), () -> Flows.look(flow));
        flow.undo();
        Flows.parse(flow, "x");
        Check.due("behind an undo and a wrong text", 3, flow::restoreState);
        Flows.parse(flow, PAIR);
        Check.tooEarly("a text forgets it", flow::restoreState);
        Check.due("nothing changed then", 0, () -> flow.count(5));
    }
}
