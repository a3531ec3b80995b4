/** Uses BarrierFlow once from its setup text to its saved state; README.md goes through it. */
public final class Example {
    private Example() {
    }

    public static void main(String[] args) {
        BarrierFlow flow = new BarrierFlow();

        type(flow, "source a records 60 seed 12; source b records 40 seed 7 lag 3;\n"
                + "instances 3; sinks 2; room 2; every 8; overtake;");
        if (flow.parse() == BarrierFlow.NONE) {
            System.out.println("error " + flow.errorCode() + " at byte " + flow.errorOffset());
            return;
        }

        type(flow, "b");
        System.out.println("b is source " + flow.find() + " of " + flow.count(0));

        System.out.println("completed in 18 ticks: " + flow.run(18));
        System.out.println("checkpoint " + flow.progress(0) + " is completed in " + flow.completesIn(500));

        System.out.println("records that were sent: " + flow.count(9));
        System.out.println("sum of key 4: " + flow.sum(4) + ", at instance " + flow.owner(4));
        System.out.println("results that sink 1 shows: " + flow.sink(1, 2) + ", open ones: " + flow.sink(1, 0));

        System.out.println("saved at " + flow.saveState());

        System.out.println("will be sent again: " + flow.fail());
        System.out.println("groups with another owner: " + flow.rescale(4));
        System.out.println("changes that can still be undone: " + flow.undo());
        flow.setEvery(0, false);
        flow.run(100);
        System.out.println("an aligning checkpoint would take " + flow.wouldTake(false) + " ticks");
        System.out.println("checkpoint " + flow.begin(false) + " began");
        flow.run(30);
        System.out.println("share of what was sent again: " + flow.repeated());

        System.out.println("bytes of sink 1: " + flow.printSink(1));
        System.out.println("its first line: " + firstLine(flow));
        System.out.println("key 4 shows " + flow.shownOf(4) + " results, the last one is "
                + flow.expected(4, flow.shownOf(4)));

        System.out.println("back at " + flow.restoreState());
        try {
            flow.undo();
        } catch (IllegalStateException e) {
            System.out.println("nothing can be undone");
        }
    }

    /** Puts a text into the input buffer, which is empty before. */
    static void type(BarrierFlow flow, String text) {
        for (int at = 0; at < text.length(); at += 20) {
            flow.feed(word(text, at), word(text, at + 4), word(text, at + 8), word(text, at + 12),
                    word(text, at + 16));
        }
        flow.truncate(text.length());
    }

    /** Four characters as feed takes them, the first one in the highest bits. */
    static int word(String text, int at) {
        int word = 0;
        for (int i = at; i < at + 4; i++) {
            word = word << 8 | (i < text.length() ? text.charAt(i) : 0);
        }
        return word;
    }

    /** The output up to its first line feed. */
    static String firstLine(BarrierFlow flow) {
        StringBuilder line = new StringBuilder();
        for (int i = 0; flow.outputByte(i) != BarrierFlow.NONE && flow.outputByte(i) != '\n'; i++) {
            line.append((char) flow.outputByte(i));
        }
        return line.toString();
    }
}
