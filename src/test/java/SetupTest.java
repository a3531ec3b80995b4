/** Promises 1 to 6 and 8: a new object, the input buffer, parsing and its errors, names. */
final class SetupTest {
    private static final String PLAIN = "source a records 1 seed 3;";

    public static void main(String[] args) {
        newObject();
        feed();
        truncate();
        parseGood();
        parseStartsAnew();
        parseKeepsOnError();
        errorsOfTokens();
        errorsOfRanges();
        errorsOfRepeats();
        errorsOfSources();
        find();
        Check.end("SetupTest");
    }

    private static void newObject() {
        BarrierFlow flow = new BarrierFlow();
        long[] counts = {1, 1, 1, 4, 0, 0, 0, 0, 0, 0, 0, 0};
        for (int what = 0; what < counts.length; what++) {
            int w = what;
            Check.due("1: count " + w + " of a new flow", counts[w], () -> flow.count(w));
        }
        Check.due("1: records of its source", 0, () -> flow.source(0, 0));
        Check.due("1: seed of its source", 0, () -> flow.source(0, 1));
        Check.due("1: lag of its source", 0, () -> flow.source(0, 2));
        Check.due("1: an empty buffer", 20, () -> flow.feed(0, 0, 0, 0, 0));
        Check.due("1: its source is a", 0, () -> Flows.find(new BarrierFlow(), "a"));
        Check.due("1: no checkpoint", -1, () -> flow.completed(0));
        Check.tooEarly("1: no state is saved", flow::restoreState);
        Check.due("1: quiet", 0, flow::quietIn);
        Check.due("1: NONE", -1, () -> BarrierFlow.NONE);
        Check.due("5: before a parse", 0, flow::errorCode);
        Check.due("6: before a parse", -1, flow::errorOffset);
    }

    private static void feed() {
        BarrierFlow flow = new BarrierFlow();
        Check.due("2: the most significant byte first", 20, () -> flow.feed(0x736f7572, 0x63652061, 0x20726563,
                0x6f726473, 0x20332073));
        Check.due("2: behind what is there", 40, () -> flow.feed(0x65656420, 0x353b2020, 0x20202020, 0x20202020,
                0x20202020));
        Check.due("2: the text", 1, flow::parse);
        Check.due("2: records", 3, () -> flow.source(0, 0));
        Check.due("2: seed", 5, () -> flow.source(0, 1));
        for (int n = 1; n <= 15; n++) {
            int length = 20 * n;
            Check.due("2: feed up to 300", length, () -> flow.feed(0, 0, 0, 0, 0));
        }
        Check.due("2: beyond 300", -1, () -> flow.feed(0, 0, 0, 0, 0));
        Check.due("2: nothing changed", true, () -> flow.truncate(300));
        Check.due("2: 281 bytes", true, () -> flow.truncate(281));
        Check.due("2: one byte too many", -1, () -> flow.feed(1, 2, 3, 4, 5));
        Check.due("2: 280 bytes", true, () -> flow.truncate(280));
        Check.due("2: 300 fit", 300, () -> flow.feed(1, 2, 3, 4, 5));
        BarrierFlow strange = new BarrierFlow();
        strange.feed(-1, 0, 0, 0, 0);
        strange.truncate(1);
        Check.due("2: byte 255 is no token", -1, strange::parse);
        Check.due("2: byte 255", 1, strange::errorCode);
    }

    private static void truncate() {
        BarrierFlow flow = new BarrierFlow();
        Check.due("3: 0 of an empty buffer", true, () -> flow.truncate(0));
        Check.due("3: more than it has", false, () -> flow.truncate(1));
        Flows.type(flow, "abc");
        Check.due("3: negative", false, () -> flow.truncate(-1));
        Check.due("3: negative by far", false, () -> flow.truncate(Integer.MIN_VALUE));
        Check.due("3: one more", false, () -> flow.truncate(4));
        Check.due("3: as long", true, () -> flow.truncate(3));
        Check.due("3: shorter", true, () -> flow.truncate(1));
        Check.due("3: what is cut is gone", false, () -> flow.truncate(2));
        Check.due("3: the first bytes stay", 0, flow::find);
        Check.due("3: find empties the buffer", false, () -> flow.truncate(1));
    }

    private static void parseGood() {
        BarrierFlow flow = new BarrierFlow();
        String text = "\n every 99;sourceb records200seed 999lag 9 ; sinks 2;\nsource abcdefgh records 0 seed 007;"
                + "room 9;instances 4;overtake;source x records 1 seed 0 lag 0;";
        Flows.type(flow, text.replace("sourceb", "source b"));
        Check.due("4: three sources", 3, flow::parse);
        Check.due("4: the buffer is empty", false, () -> flow.truncate(1));
        long[] counts = {3, 4, 2, 9, 99, 0, 0, 0, 0, 0, 0, 1};
        for (int what = 0; what < counts.length; what++) {
            int w = what;
            Check.due("4: count " + w, counts[w], () -> flow.count(w));
        }
        long[][] sources = {{200, 999, 9, 0}, {0, 7, 0, 0}, {1, 0, 0, 0}};
        for (int s = 0; s < 3; s++) {
            for (int what = 0; what < 4; what++) {
                int source = s;
                int w = what;
                Check.due("4: source " + s + " " + w, sources[s][w], () -> flow.source(source, w));
            }
        }
        Check.due("4: the name of source 1", 1, () -> Flows.find(flow, "abcdefgh"));
        Check.due("5: no error", 0, flow::errorCode);
        Check.due("6: no error", -1, flow::errorOffset);
        Check.due("4: what is not said is as at first", 1, () -> Flows.parse(flow, "source b records 1 seed 1;"));
        long[] plain = {1, 1, 1, 4, 0, 0, 0, 0, 0, 0, 0, 0};
        for (int what = 0; what < plain.length; what++) {
            int w = what;
            Check.due("4: count " + w + " again", plain[w], () -> flow.count(w));
        }
        Check.due("4: no lag", 0, () -> flow.source(0, 2));
        Flows.parse(flow, "source a records 7 seed 7 lag 7;room 7");
        Check.due("4: behind a text with an error", 1, () -> Flows.parse(flow, "source b records 0 seed 0;"));
        Check.due("4: nothing stays of it, no lag", 0, () -> flow.source(0, 2));
        Check.due("4: no room", 4, () -> flow.count(3));
        Flows.parse(flow, "source a records 200 seed 0;source b records 200 seed 0;");
        Flows.parse(flow, "source a records 2 seed 0;");
        Check.due("4: fewer records in the second setup", 2, () -> Flows.parse(flow,
                "source a records 1 seed 1;source b records 1 seed 0;"));
        Check.due("23: one record of key 4", 1 + 1, () -> flow.expected(4, 1));
        Check.due("23: no second one", -1, () -> flow.expected(4, 2));
        Check.due("23: none of key 8", -1, () -> flow.expected(8, 1));
        Check.due("23: one record of key 1", 1, () -> flow.expected(1, 1));
        Check.due("23: no second one of key 1", -1, () -> flow.expected(1, 2));
        Check.due("4: names of before are gone", -1, () -> Flows.find(flow, "abcdefgh"));
    }

    private static void parseStartsAnew() {
        BarrierFlow flow = Flows.of("source a records 9 seed 0;every 2;overtake;instances 3;");
        flow.run(9);
        flow.begin(true);
        flow.saveState();
        flow.printSink(0);
        String before = Flows.output(flow);
        Check.due("4: something was shown", true, () -> before.length() > 4);
        Check.due("4: parse behind a run", 1, () -> Flows.parse(flow, "source a records 9 seed 0;instances 3;"));
        Check.due("4: the output stays", before, () -> Flows.output(flow));
        for (int what = 5; what <= 11; what++) {
            int w = what;
            Check.due("4: count " + w + " as at first", 0, () -> flow.count(w));
        }
        Check.tooEarly("4: nothing can be undone", flow::undo);
        Check.tooEarly("4: no state is saved", flow::restoreState);
        Check.due("4: no checkpoint in progress", -1, () -> flow.progress(0));
        Check.due("4: none completed", -1, () -> flow.completed(0));
        Check.due("4: nothing is shown", 0, () -> flow.sink(0, 2));
        Check.due("4: nothing is open", 0, () -> flow.sink(0, 0));
        Check.due("4: channels are empty", -1, flow::fullest);
        Check.due("4: positions", 0, () -> flow.source(0, 3));
        Check.due("4: sums", 0, () -> flow.sum(0));
        Check.due("4: noted sums", 0, () -> flow.notedSum(0));
        Check.due("4: none was sent", 0.0f, flow::repeated);
        Check.due("4: none was handled", 0.0, flow::skew);
    }

    private static void parseKeepsOnError() {
        BarrierFlow flow = Flows.of("source a records 9 seed 0;every 2;");
        flow.run(5);
        flow.saveState();
        Flows.type(flow, "source b records 9 seed 0;instances 2;room");
        Check.due("4: an error", -1, flow::parse);
        Check.due("4: the buffer is empty then, too", false, () -> flow.truncate(1));
        Check.due("4: the time is kept", 5, () -> flow.count(5));
        Check.due("4: every is kept", 2, () -> flow.count(4));
        Check.due("4: instances are kept", 1, () -> flow.count(1));
        Check.due("4: the name is kept", 0, () -> Flows.find(flow, "a"));
        Check.due("4: no new name", -1, () -> Flows.find(flow, "b"));
        Check.due("4: changes are kept", 1, () -> flow.count(10));
        Check.due("4: the saved state is kept", 5, flow::restoreState);
        Check.due("5: the code stays", 1, flow::errorCode);
        Check.due("6: the offset stays", 42, flow::errorOffset);
        Flows.parse(flow, PLAIN);
        Check.due("5: the latest call counts", 0, flow::errorCode);
        Check.due("6: the latest call counts", -1, flow::errorOffset);
    }

    private static void error(String text, int code, int offset) {
        BarrierFlow flow = new BarrierFlow();
        Flows.type(flow, text);
        Check.due("4: '" + text + "'", -1, flow::parse);
        Check.due("5: '" + text + "'", code, flow::errorCode);
        Check.due("6: '" + text + "'", offset, flow::errorOffset);
    }

    private static void good(String text, int sources) {
        BarrierFlow flow = new BarrierFlow();
        Flows.type(flow, text);
        Check.due("4: '" + text + "'", sources, flow::parse);
        Check.due("5: '" + text + "'", 0, flow::errorCode);
        Check.due("6: '" + text + "'", -1, flow::errorOffset);
    }

    private static void errorsOfTokens() {
        error(";", 1, 0);
        error(" x", 1, 1);
        error("7", 1, 0);
        error("seed 7;", 1, 0);
        error("records", 1, 0);
        error("lag 3;", 1, 0);
        error("Source a", 1, 0);
        error("sources a records 1 seed 3;", 1, 0);
        error("sourcea records 1 seed 3;", 1, 0);
        error("xource a records 1 seed 3;", 1, 0);
        error("source a xecords 1 seed 3;", 1, 9);
        error("toom 3;", 1, 0);
        error("roo 3;", 1, 0);
        error("roox 3;", 1, 0);
        good("source zaz records 1 seed 3;source z records 1 seed 3;", 2);
        error("source", 1, 6);
        error("source  \n", 1, 9);
        error("source\ta", 1, 6);
        error("source 1 records", 1, 7);
        error("source a1 records 1 seed 3;", 1, 8);
        error("source ninewords records 1 seed 3;", 1, 7);
        good("source eightlet records 1 seed 3;", 1);
        for (String word : "source records seed lag instances sinks room every overtake".split(" ")) {
            error("source " + word + " records 1 seed 3;", 1, 7);
            good("source " + word.substring(1) + " records 1 seed 3;", 1);
        }
        error("source a seed 3 records 1;", 1, 9);
        error("source a records", 1, 16);
        error("source a records seed", 1, 17);
        error("source a records 0001 seed 3;", 1, 17);
        error("source a records 1000 seed 3;", 1, 17);
        error("source a records 1 3;", 1, 19);
        error("source a records 1 seed ;", 1, 24);
        error("source a records 1 seed 1000;", 1, 24);
        error("source a records 1 seed 3", 1, 25);
        error("source a records 1 seed 3 ", 1, 26);
        error("source a records 1 seed 3 seed 4;", 1, 26);
        error("source a records 1 seed 3 lag;", 1, 29);
        error("source a records 1 seed 3 lag 0001;", 1, 30);
        error("source a records 1 seed 3 lag 1 lag 1;", 1, 32);
        error(PLAIN + ";", 1, 26);
        error(PLAIN + "room;", 1, 30);
        error(PLAIN + "room 3", 1, 32);
        error(PLAIN + "room 3 4;", 1, 33);
        error(PLAIN + "room 0003;", 1, 31);
        error(PLAIN + "room -3;", 1, 31);
        error(PLAIN + "overtake 1;", 1, 35);
        error(PLAIN + "overtake", 1, 34);
        error(PLAIN + "room 3:", 1, 32);
        error(PLAIN + "`", 1, 26);
        error(PLAIN + "{", 1, 26);
        error(PLAIN + "room /;", 1, 31);
        error(PLAIN + "room 3\u00e9;", 1, 32);
        error(PLAIN + "\r\n", 1, 26);
        error("room 3", 1, 6);
        good(PLAIN + "room 003;", 1);
        good("source\na\nrecords\n1\nseed\n3\n;\n", 1);
        good("source a records1seed3lag4;room3;", 1);
    }

    private static void errorsOfRanges() {
        error("source a records 201 seed 3;", 2, 17);
        good("source a records 200 seed 3;", 1);
        good("source a records 0 seed 999;", 1);
        error("source a records 999 seed 3", 2, 17);
        error("source a records 1 seed 3 lag 10;", 2, 30);
        good("source a records 1 seed 3 lag 9;", 1);
        error("instances 0;", 2, 10);
        error("instances 5;", 2, 10);
        good(PLAIN + "instances 1;", 1);
        good(PLAIN + "instances 4;", 1);
        error("sinks 0;", 2, 6);
        error("sinks 3;", 2, 6);
        good(PLAIN + "sinks 1;", 1);
        good(PLAIN + "sinks 2;", 1);
        error("room 0;", 2, 5);
        error("room 10;", 2, 5);
        good(PLAIN + "room 1;", 1);
        good(PLAIN + "room 9;", 1);
        error("every 100;", 2, 6);
        good(PLAIN + "every 0;", 1);
        good(PLAIN + "every 99;", 1);
    }

    private static void errorsOfRepeats() {
        error(PLAIN + "source a records 1 seed 3;", 3, 33);
        error(PLAIN + "source a", 3, 33);
        error(PLAIN + "source b records 1 seed 3;source b", 3, 59);
        good(PLAIN + "source aa records 1 seed 3;", 2);
        error("instances 2;instances 2;", 3, 12);
        error("sinks 2; sinks", 3, 9);
        error("room 4;room 4;", 3, 7);
        error("every 0;every 0;", 3, 8);
        error("overtake;overtake;", 3, 9);
        error("every 0;room 10;every 0;", 2, 13);
    }

    private static void errorsOfSources() {
        String four = "source a records 1 seed 3;source b records 1 seed 3;source c records 1 seed 3;"
                + "source d records 1 seed 3;";
        good(four, 4);
        error(four + "source e records 1 seed 3;", 4, 104);
        error(four + " source", 4, 105);
        error(four + "sourc", 1, 104);
        error("", 5, 0);
        error(" \n ", 5, 3);
        error("room 3; ", 5, 8);
        error("instances 1;sinks 1;room 1;every 1;overtake;", 5, 44);
    }

    private static void find() {
        BarrierFlow flow = Flows.of("source a records 1 seed 0;source ab records 1 seed 0;source eightlet records 1 seed 0;"
                + "source b records 1 seed 0;");
        Check.due("8: a", 0, () -> Flows.find(flow, "a"));
        Check.due("8: ab", 1, () -> Flows.find(flow, "ab"));
        Check.due("8: eightlet", 2, () -> Flows.find(flow, "eightlet"));
        Check.due("8: b", 3, () -> Flows.find(flow, "b"));
        Check.due("8: the buffer is empty afterwards", -1, flow::find);
        Check.due("8: a space more", -1, () -> Flows.find(flow, "a "));
        Check.due("8: a space before", -1, () -> Flows.find(flow, " a"));
        Check.due("8: the buffer is empty then, too", false, () -> flow.truncate(1));
        Check.due("8: a beginning", -1, () -> Flows.find(flow, "eightle"));
        Check.due("8: more letters", -1, () -> Flows.find(flow, "eightlets"));
        Check.due("8: another name", -1, () -> Flows.find(flow, "c"));
        Check.due("8: the whole buffer", -1, () -> {
            Flows.type(flow, 0, "a");
            flow.feed(0, 0, 0, 0, 0);
            return flow.find();
        });
    }
}
