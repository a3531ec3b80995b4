/** Promises 41 to 44: printSink, outputByte, saveState, restoreState. */
final class StateTest {
    private static final String TEXT = "source a records 50 seed 0;source b records 50 seed 8 lag 3;"
            + "every 5;overtake;instances 3;sinks 2;room 3;";

    public static void main(String[] args) {
        print();
        printMost();
        save();
        saveKeepsOthers();
        saveAgain();
        Check.end("StateTest");
    }

    private static void print() {
        BarrierFlow flow = Flows.of("source a records 9 seed 3;sinks 2;");
        Check.due("42: no output at first", -1, () -> flow.outputByte(0));
        Check.due("41: nothing is shown", 0, () -> flow.printSink(0));
        Check.due("42: no byte of it", -1, () -> flow.outputByte(0));
        flow.run(9);
        flow.begin(true);
        flow.run(2);
        // i * i + i / 2 + 3 modulo 4: 3, 0, 0, 1, 1, 2, 2, 3, 3; values: 4, 11, 18, 25, 32, 39, 46, 3, 10
        String first = "k0=11\nk0=29\nk8=39\nk8=85\n";
        String second = "k12=4\nk4=25\nk4=57\nk12=7\nk12=17\n";
        Check.due("41: bytes of sink 0", first.length(), () -> flow.printSink(0));
        Check.due("42: the text of sink 0", first, () -> Flows.output(flow));
        Check.due("41: bytes of sink 1", second.length(), () -> flow.printSink(1));
        Check.due("42: in place of the text before", second, () -> Flows.output(flow));
        Check.due("42: k", (int) 'k', () -> flow.outputByte(0));
        Check.due("42: a line feed", 10, () -> flow.outputByte(5));
        Check.due("42: the last byte", 10, () -> flow.outputByte(second.length() - 1));
        Check.due("42: none behind it", -1, () -> flow.outputByte(second.length()));
        Check.due("42: none before the first", -1, () -> flow.outputByte(-1));
        Check.due("42: by far", -1, () -> flow.outputByte(Integer.MAX_VALUE));
        Check.outside("41: sink 2", () -> flow.printSink(2));
        Check.outside("41: sink -1", () -> flow.printSink(-1));
        Check.due("42: the output is kept", second, () -> Flows.output(flow));
        flow.undo();
        Check.due("35: and by undo", second, () -> Flows.output(flow));
        Flows.parse(flow, "source b records 1 seed 1;");
        Check.due("4: and by parse", second, () -> Flows.output(flow));
        flow.printSink(0);
        Check.due("41: an empty text", -1, () -> flow.outputByte(0));
    }

    private static BarrierFlow shows800() {
        BarrierFlow flow = Flows.of("source a records 200 seed 999;source b records 200 seed 999;"
                + "source c records 200 seed 999;source d records 200 seed 999;instances 4;");
        flow.run(500);
        flow.run(500);
        flow.begin(false);
        flow.run(500);
        return flow;
    }

    // some 250 results or 450 bytes of each object, which answers 512 calls
    private static void printMost() {
        StringBuilder text = new StringBuilder();
        int greatest = 0;
        for (int from = 0; from < 800; from += 200) {
            BarrierFlow flow = shows800();
            Check.due("14: all 800 are shown", 800, () -> flow.sink(0, 2));
            for (int n = from; n < from + 200; n++) {
                int sum = flow.shown(0, n, 1);
                greatest = Math.max(greatest, sum);
                text.append('k').append(flow.shown(0, n, 0)).append('=').append(sum).append('\n');
            }
        }
        int most = greatest;
        Check.due("41: with sums of four digits", true, () -> most > 999);
        for (int from = 0; from < text.length(); from += 450) {
            BarrierFlow flow = shows800();
            Check.due("41: bytes of 800 results", text.length(), () -> flow.printSink(0));
            int end = Math.min(from + 450, text.length());
            StringBuilder part = new StringBuilder();
            for (int i = from; i < end; i++) {
                part.append((char) flow.outputByte(i));
            }
            Check.due("42: bytes from " + from, text.substring(from, end), part::toString);
            Check.due("42: no more", -1, () -> flow.outputByte(text.length()));
        }
    }

    private static BarrierFlow afterTicks(int ticks) {
        BarrierFlow flow = Flows.of(TEXT);
        Check.tooEarly("44: no state is saved", flow::restoreState);
        flow.run(ticks);
        flow.setLag(0, 2);
        return flow;
    }

    private static void save() {
        for (int ticks = 1; ticks < 40; ticks += 2) {
            int time = ticks;
            BarrierFlow other = afterTicks(ticks);
            String before = Flows.look(other);
            other.run(30);
            String after = Flows.look(other);
            BarrierFlow flow = afterTicks(ticks);
            Check.due("43: the time", time, flow::saveState);
            flow.run(13);
            flow.setRoom(7);
            flow.setEvery(0, false);
            flow.setLag(0, 9);
            flow.rescale(2);
            flow.run(9);
            Check.due("44: the time", time, flow::restoreState);
            Check.due("44: everything is as it was", before, () -> Flows.look(flow));
            Check.due("44: nothing can be undone", 0, () -> flow.count(10));
            Check.tooEarly("44: nothing can be undone then", flow::undo);
            flow.run(50);
            Check.due("44: it stays saved", time, flow::restoreState);
            flow.run(30);
            Check.due("44: and goes on as then", after, () -> Flows.look(flow));
        }
    }

    private static void saveKeepsOthers() {
        BarrierFlow flow = Flows.of(TEXT);
        flow.run(9);
        flow.printSink(0);
        String output = Flows.output(flow);
        Check.due("43: changes can still be undone", 9, flow::saveState);
        Check.due("43: one of them", 1, () -> flow.count(10));
        Check.due("35: the saved state stays", 0, flow::undo);
        flow.run(20);
        flow.printSink(1);
        String other = Flows.output(flow);
        Flows.parse(flow, "source");
        Flows.type(flow, "b");
        Check.due("44: restored", 9, flow::restoreState);
        Check.due("44: not the output", other, () -> Flows.output(flow));
        Check.due("43: that is another one", false, () -> other.equals(output));
        Check.due("44: not the error", 1, flow::errorCode);
        Check.due("44: not its offset", 6, flow::errorOffset);
        Check.due("44: not the buffer", 1, flow::find);
        Flows.parse(flow, TEXT);
        Check.tooEarly("4: parse forgets the saved state", flow::restoreState);
    }

    private static void saveAgain() {
        BarrierFlow flow = Flows.of(TEXT);
        flow.run(3);
        flow.saveState();
        flow.run(4);
        String later = Flows.look(flow);
        Check.due("43: in place of an earlier one", 7, flow::saveState);
        flow.fail();
        Check.due("44: the later one", 7, flow::restoreState);
        Check.due("44: all of it", later, () -> Flows.look(flow));
    }
}
