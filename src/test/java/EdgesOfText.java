/** The boundary cases of section 1, of the constants, and of promises 1 to 6 and 8. */
final class EdgesOfText {
    private static final String PLAIN = "source a records 0 seed 0;";
    private static final String REST = " records 0 seed 0;";
    private static final String[] QUOTED = {"source", "records", "seed", "lag", "instances", "sinks", "room", "every",
        "overtake"};

    private EdgesOfText() {
    }

    static void all() {
        newObject();
        feedPlaces();
        feedRefused();
        truncate();
        buffer();
        grammar();
        sources();
        sourceNumbers();
        settings();
        overtake();
        names();
        once();
        words();
        numbers();
        spaces();
        offsets();
        firstOfSeveral();
        codes();
        parse();
        parseRefused();
        latestError();
        find();
    }

    private static String blanks(int many) {
        return " ".repeat(many);
    }

    /** Parses a text with a new flow; code 0 if it is good, and the offset then is NONE. */
    private static void parsed(String text, int code, int offset) {
        BarrierFlow flow = new BarrierFlow();
        Flows.type(flow, text);
        int answer = flow.parse();
        String what = "'" + (text.length() > 80 ? text.length() + " bytes" : text.replace('\n', '|')) + "'";
        Check.due(what + " is good", code == 0, () -> answer > 0);
        Check.due(what + ", code", code, flow::errorCode);
        Check.due(what + ", offset", offset, flow::errorOffset);
    }

    private static void good(String text) {
        parsed(text, 0, -1);
    }

    private static void newObject() {
        Doc.says("constants", "- `NONE = -1`: There is no such thing.");
        Check.due("NONE", -1, () -> BarrierFlow.NONE);
        Doc.says("promise 1", "Creates a flow as if the text \"source a records 0 seed 0;\" had been parsed, "
                + "with an empty input buffer.");
        BarrierFlow flow = new BarrierFlow();
        Check.due("looks like that text", Flows.look(Flows.of(PLAIN)), () -> Flows.look(flow));
        Check.due("no change can be undone", 0, () -> flow.count(10));
        Check.tooEarly("no state is saved", flow::restoreState);
        Check.due("no output", -1, () -> flow.outputByte(0));
        Check.due("one byte is not there", false, () -> flow.truncate(1));
        Check.due("none is", true, () -> flow.truncate(0));
        Check.due("its source is a", 0, () -> Flows.find(flow, "a"));
        Check.outside("it has no record", () -> flow.record(0, 0, 0));
        flow.run(1);
        Check.due("none is sent", 0, () -> flow.count(9));
    }

    // one byte that belongs to no token among blanks: its offset tells where it was put
    private static void feedPlaces() {
        String[] words = {"- `a`: bytes 0 to 3", "- `b`: bytes 4 to 7", "- `c`: bytes 8 to 11", "- `d`: bytes 12 to 15",
            "- `e`: bytes 16 to 19"};
        for (int at = 0; at < 20; at++) {
            if (at % 4 == 0) {
                Doc.says("promise 2", words[at / 4]);
            }
            for (int value : new int[] {0xff, 0x80, 0x7f, 0x41, 0}) {
                BarrierFlow flow = new BarrierFlow();
                int[] row = new int[5];
                for (int i = 0; i < 20; i++) {
                    row[i / 4] |= (i == at ? value : ' ') << 8 * (3 - i % 4);
                }
                int offset = at;
                Check.due("twenty bytes", 20, () -> flow.feed(row[0], row[1], row[2], row[3], row[4]));
                Check.due("byte " + value + " is no token", -1, flow::parse);
                Check.due("byte " + value + " is byte " + at, offset, flow::errorOffset);
            }
        }
        Doc.says("promise 2", "the four bytes of each parameter, the most significant byte first.");
        BarrierFlow flow = new BarrierFlow();
        flow.feed(0x736f7572, 0x63652061, 0x20726563, 0x6f726473, 0x20313937);
        flow.feed(0x20736565, 0x64203938, 0x393b2020, 0x20202020, 0x20202020);
        Check.due("a text of 'sour', 'ce a', ..", 1, flow::parse);
        Check.due("its records", 197, () -> flow.source(0, 0));
        Check.due("its seed", 989, () -> flow.source(0, 1));
        Doc.says("promise 2", "Appends twenty bytes to the input buffer:");
        Flows.type(flow, PLAIN);
        Check.due("behind 26 bytes", 46, () -> flow.feed(0x41202020, 0x20202020, 0x20202020, 0x20202020, 0x20202020));
        flow.parse();
        Check.due("the first of them is byte 26", 26, flow::errorOffset);
    }

    private static void feedRefused() {
        Doc.says("promise 2", "Returns the new length of the buffer;");
        BarrierFlow flow = new BarrierFlow();
        for (int length = 20; length <= 300; length += 20) {
            int due = length;
            Check.due("up to 300", due, () -> flow.feed(0x20202020, 0x20202020, 0x20202020, 0x20202020, 0x20202020));
        }
        Doc.says("promise 2", "NONE, with no change, if it would exceed 300.");
        Check.due("320", -1, () -> flow.feed(0x41414141, 0x41414141, 0x41414141, 0x41414141, 0x41414141));
        Check.due("still 300 bytes", true, () -> flow.truncate(300));
        flow.parse();
        Check.due("300 blanks as before", 300, flow::errorOffset);
        String text = PLAIN + blanks(255);
        Flows.type(flow, text);
        Check.due("301", -1, () -> flow.feed(0x41414141, 0x41414141, 0x41414141, 0x41414141, 0x41414141));
        Check.due("still 281 bytes", true, () -> flow.truncate(281));
        Check.due("not one more", false, () -> flow.truncate(282));
        Check.due("as they were", 1, flow::parse);
        Flows.type(flow, text.substring(1));
        Check.due("300", -1, () -> flow.truncate(280) ? flow.feed(0, 0, 0, 0, 0) - 301 : 0);
    }

    private static void truncate() {
        Doc.says("promise 3", "false, with no change, if length is negative or greater than the length of the buffer.");
        BarrierFlow flow = new BarrierFlow();
        Check.due("1 of 0", false, () -> flow.truncate(1));
        Check.due("-1 of 0", false, () -> flow.truncate(-1));
        Flows.type(flow, PLAIN);
        Check.due("-1", false, () -> flow.truncate(-1));
        Check.due("the least number", false, () -> flow.truncate(Integer.MIN_VALUE));
        Check.due("27 of 26", false, () -> flow.truncate(27));
        Check.due("300 of 26", false, () -> flow.truncate(300));
        Check.due("the greatest number", false, () -> flow.truncate(Integer.MAX_VALUE));
        Check.due("all 26 bytes are there", 1, flow::parse);
        Doc.says("promise 3", "Shortens the input buffer to its first bytes.");
        Flows.type(flow, PLAIN + "x");
        Check.due("27 of 27", true, () -> flow.truncate(27));
        Check.due("26 of 27", true, () -> flow.truncate(26));
        Check.due("27 of 26", false, () -> flow.truncate(27));
        Check.due("the first 26", 1, flow::parse);
        Flows.type(flow, PLAIN);
        Check.due("0 of 26", true, () -> flow.truncate(0));
        Check.due("none is there", false, () -> flow.truncate(1));
        flow.parse();
        Check.due("an empty text", 5, flow::errorCode);
        Flows.type(flow, PLAIN);
        flow.truncate(7);
        Flows.type(flow, 7, "bc" + REST);
        Check.due("feed goes on behind them", 1, flow::parse);
        Check.due("with the name bc", 0, () -> Flows.find(flow, "bc"));
    }

    private static void buffer() {
        Doc.says("section 1", "The input buffer holds at most 300 bytes.");
        good(PLAIN + blanks(274));
        good(blanks(274) + PLAIN);
        parsed(blanks(299) + "x", 1, 299);
        parsed(PLAIN + blanks(273) + "x", 1, 299);
        parsed(blanks(294) + "source", 1, 300);
        parsed(PLAIN + blanks(266) + "source a", 3, 299);
        parsed(PLAIN + blanks(258) + "source abcdefghi", 1, 291);
        parsed("room 2;" + blanks(289) + "room", 3, 296);
        parsed(blanks(300), 5, 300);
        BarrierFlow flow = Flows.of(PLAIN);
        Flows.type(flow, "a".repeat(300));
        Check.due("a name of 300 letters", -1, flow::find);
    }

    private static void grammar() {
        Doc.says("section 1", "Grammar: text in quotes stands for itself, braces mean any number of times, brackets mean optional, | separates alternatives:");
        parsed("", 5, 0);
        good(PLAIN);
        good("instances 1;sinks 1;room 1;every 0;overtake;" + PLAIN);
        good(PLAIN + "overtake;every 0;room 1;sinks 1;instances 1;");
        good("source a records 0 seed 0 lag 0;");
        parsed(";", 1, 0);
        parsed(PLAIN + ";", 1, 26);
        Doc.says("section 1", "text      = { statement \";\" }");
        parsed("source a records 0 seed 0", 1, 25);
        parsed("source a records 0 seed 0 source b", 1, 26);
        parsed("room 3 sinks 2;", 1, 7);
        parsed("overtake room 2;", 1, 9);
        good("source a records 0 seed 0 ;");
        Doc.says("section 1", "statement = \"source\" name \"records\" number \"seed\" number [ \"lag\" number ]");
        parsed("source records 0 seed 0;", 1, 7);
        parsed("source a 0 seed 0;", 1, 9);
        parsed("source a records seed 0;", 1, 17);
        parsed("source a records 0 0;", 1, 19);
        parsed("source a records 0 seed;", 1, 23);
        parsed("source a records 0 lag 0;", 1, 19);
        parsed("source a seed 0 records 0;", 1, 9);
        parsed("source a records 0 seed 0 0;", 1, 26);
        parsed("source a records 0 seed 0 lag;", 1, 29);
        parsed("source a records 0 seed 0 lag lag 0;", 1, 30);
        Doc.says("section 1",
                "| \"instances\" number | \"sinks\" number | \"room\" number | \"every\" number | \"overtake\"");
        for (String word : new String[] {"instances", "sinks", "room", "every"}) {
            parsed(word + ";", 1, word.length());
            parsed(word, 1, word.length());
            parsed(word + " a;", 1, word.length() + 1);
            good(PLAIN + word + " 1;");
        }
        parsed("overtake 1;", 1, 9);
        good(PLAIN + "overtake;");
        for (String word : new String[] {"records", "seed", "lag", "a", "7"}) {
            parsed(word + " 1;", 1, 0);
        }
    }

    private static void sources() {
        Doc.says("section 1", "There are 1 to 4 sources, numbered from 0 in the order of the text;");
        String[] names = {"d", "a", "c", "b"};
        StringBuilder text = new StringBuilder();
        parsed("room 3;", 5, 7);
        for (int n = 1; n <= 4; n++) {
            text.append("source ").append(names[n - 1]).append(" records ").append(n).append(" seed 0;");
            BarrierFlow flow = new BarrierFlow();
            int many = n;
            Check.due(n + " sources", many, () -> Flows.parse(flow, text.toString()));
            Check.due(n + " sources then", many, () -> flow.count(0));
            for (int s = 0; s < n; s++) {
                int source = s;
                Check.due("source " + s + " of " + n, source + 1, () -> flow.source(source, 0));
                Check.due("its name", source, () -> Flows.find(flow, names[source]));
            }
            Check.outside("no source " + n, () -> flow.source(many, 0));
        }
        parsed(text + "source e records 1 seed 0;", 4, text.length());
    }

    private static void sourceNumbers() {
        Doc.says("section 1", "a source has 0 to 200 records, a seed of 0 to 999, and a lag of 0 to 9 (0 without it).");
        BarrierFlow least = Flows.of("source a records 0 seed 0 lag 0;source b records 000 seed 000;");
        BarrierFlow most = Flows.of("source a records 200 seed 999 lag 9;source b records 1 seed 1 lag 1;");
        int[][] due = {{0, 200}, {0, 999}, {0, 9}};
        for (int w = 0; w < 3; w++) {
            int what = w;
            Check.due("the least " + w, due[w][0], () -> least.source(0, what));
            Check.due("the most " + w, due[w][1], () -> most.source(0, what));
            Check.due("none or zeros " + w, 0, () -> least.source(1, what));
            Check.due("1 of " + w, 1, () -> most.source(1, what));
        }
        for (String between : new String[] {"source b records 5 seed 5;", "source a records 5 seed 5 lag 5;x"}) {
            Flows.parse(most, between);
            Check.due("behind other texts", 1, () -> Flows.parse(most, "source c records 5 seed 5;"));
            Check.due("0 without it, whatever there was before", 0, () -> most.source(0, 2));
        }
        parsed("source a records 201 seed 0;", 2, 17);
        parsed("source a records 999 seed 0;", 2, 17);
        parsed("source a records 0 seed 1000;", 1, 24);
        parsed("source a records 0 seed 0 lag 10;", 2, 30);
        parsed("source a records 0 seed 0 lag 999;", 2, 30);
        Doc.says("section 1", "2: a number that is out of its range.");
        parsed("source a records 201", 2, 17);
        parsed("source a records 0 seed 0 lag 10", 2, 30);
    }

    private static void setting(String word, int what, int least, int most) {
        for (int number : new int[] {least, most}) {
            String text = word + " " + number + ";";
            Check.due(text, number, () -> Flows.of(PLAIN + text).count(what));
            Check.due(text + " first", number, () -> Flows.of(text + PLAIN).count(what));
        }
        if (least > 0) {
            parsed(word + " " + (least - 1) + ";", 2, word.length() + 1);
        }
        parsed(word + " " + (most + 1) + ";", 2, word.length() + 1);
        parsed(word + " 999;", 2, word.length() + 1);
        good(PLAIN + word + " 00" + Math.min(most, 9) + ";");
        parsed(PLAIN + word + " 000" + Math.min(most, 9) + ";", 1, 27 + word.length());
    }

    private static void without(int what, int due) {
        Check.due("without the statement", due, () -> Flows.of(PLAIN).count(what));
        BarrierFlow flow = Flows.of("instances 3;sinks 2;room 7;every 8;overtake;" + PLAIN);
        Check.due("without it behind a text with it", due, () -> Flows.parse(flow, PLAIN) == 1 ? flow.count(what) : -2);
        Flows.parse(flow, "instances 3;sinks 2;room 7;every 8;overtake;");
        Check.due("without it behind a wrong text with it", due,
                () -> Flows.parse(flow, PLAIN) == 1 ? flow.count(what) : -2);
    }

    private static void settings() {
        Doc.says("section 1", "There are 1 to 4 instances (1 without the statement)");
        setting("instances", 1, 1, 4);
        without(1, 1);
        Doc.says("section 1", "and 1 or 2 sinks (1), all numbered from 0.");
        setting("sinks", 2, 1, 2);
        without(2, 1);
        BarrierFlow flow = Flows.of(PLAIN + "instances 4;sinks 2;");
        Check.due("instance 0", 2, () -> flow.instance(0, 0));
        Check.due("instance 3", 2, () -> flow.instance(3, 0));
        Check.outside("no instance 4", () -> flow.instance(4, 0));
        Check.due("sink 0", 0, () -> flow.sink(0, 0));
        Check.due("sink 1", 0, () -> flow.sink(1, 0));
        Check.outside("no sink 2", () -> flow.sink(2, 0));
        Doc.says("section 1", "The room is 1 to 9 (4),");
        setting("room", 3, 1, 9);
        without(3, 4);
        Doc.says("section 1", "every is 0 to 99 (0).");
        setting("every", 4, 0, 99);
        without(4, 0);
    }

    private static void overtake() {
        Doc.says("section 1", "With \"overtake\" the checkpoints that begin by themselves overtake, without it they align.");
        String[] texts = {"source a records 9 seed 0;every 3;", "source a records 9 seed 0;every 3;overtake;",
            "overtake;every 3;source a records 9 seed 0;"};
        for (int n = 0; n < 3; n++) {
            int due = n == 0 ? 0 : 1;
            BarrierFlow flow = Flows.of(texts[n]);
            Check.due(texts[n], due, () -> flow.count(11));
            flow.run(1);
            Check.due(texts[n] + " the first one", due, () -> flow.completed(3));
            BarrierFlow own = Flows.of(texts[n]);
            own.begin(n == 0);
            own.run(1);
            Check.due(texts[n] + " one that does not begin by itself", 1 - due, () -> own.completed(3));
        }
        without(11, 0);
    }

    private static void names() {
        Doc.says("section 1", "A name is a word of 1 to 8 letters that is not quoted in the grammar;");
        good("source a" + REST);
        good("source z" + REST);
        good("source abcdefgh" + REST);
        parsed("source abcdefghi" + REST, 1, 7);
        parsed("source " + "a".repeat(100) + REST, 1, 7);
        parsed("source 1" + REST, 1, 7);
        parsed("source ;", 1, 7);
        for (String word : QUOTED) {
            parsed("source " + word + REST, 1, 7);
            good("source " + word.substring(0, word.length() - 1) + REST);
            if (word.length() < 8) {
                good("source " + word + "s" + REST);
            }
        }
        // text, statement, name and number are words of the grammar that are not in quotes
        for (String word : new String[] {"text", "name", "number", "statemen"}) {
            good("source " + word + REST);
        }
        Doc.says("section 1", "sources have different names.");
        parsed("source a" + REST + "source a" + REST, 3, 33);
        parsed("source a" + REST + "source b" + REST + "source c" + REST + "source a" + REST, 3, 85);
        parsed("source abcdefgh" + REST + "source abcdefgh" + REST, 3, 40);
        good("source abcdefgh" + REST + "source abcdefg" + REST + "source abcdefgx" + REST + "source xbcdefgh" + REST);
        BarrierFlow flow = Flows.of("source b" + REST);
        Check.due("the same name in another text", 1, () -> Flows.parse(flow, "source b" + REST));
        Flows.parse(flow, "source c" + REST + "x");
        Check.due("the same name behind a wrong text", 1, () -> Flows.parse(flow, "source c" + REST));
    }

    private static void once() {
        Doc.says("section 1", "All statements but source can stand once each.");
        for (String statement : new String[] {"instances 2;", "sinks 2;", "room 2;", "every 2;", "overtake;"}) {
            good(statement + PLAIN);
            parsed(statement + statement, 3, statement.length());
            parsed(PLAIN + statement + "source b" + REST + statement, 3, 52 + statement.length());
        }
        Doc.says("section 1", "the first word of a second statement of a kind that can stand once.");
        parsed("room 2;room", 3, 7);
        parsed("room 2;room room", 3, 7);
        parsed("room 2;room 10;", 3, 7);
        parsed("overtake;overtake", 3, 9);
        parsed("every 0; every 0;", 3, 9);
    }

    private static void words() {
        Doc.says("section 1", "A word is a maximal run of the letters a to z,");
        parsed("sourcea" + REST, 1, 0);
        parsed("sour ce a" + REST, 1, 0);
        parsed("xource a" + REST, 1, 0);
        parsed("source a xecords 0 seed 0;", 1, 9);
        parsed("zoom 4;", 1, 0);
        good("source az records 0 seed 0;");
        parsed("source a`" + REST, 1, 8);
        parsed("source a{" + REST, 1, 8);
        parsed("source aA" + REST, 1, 8);
        parsed("source Z" + REST, 1, 7);
        parsed("source a_b" + REST, 1, 8);
        good("source a\nrecords 0seed 0;");
        good("source a records 0seed 0lag 0;room 1;");
        Doc.says("section 1", "or a byte that belongs to no token.");
        for (int value = 0; value < 256; value++) {
            String sign = String.valueOf((char) value);
            boolean isBlank = value == 32 || value == 10;
            boolean isLetter = value >= 'a' && value <= 'z';
            boolean isDigit = value >= '0' && value <= '9';
            parsed(sign, isBlank ? 5 : 1, isBlank ? 1 : 0);
            boolean fitsName = isBlank || isLetter;
            parsed("source a" + sign + REST, fitsName ? 0 : 1, fitsName ? -1 : 8);
            boolean fitsNumber = isBlank || isDigit;
            parsed("source a records 1" + sign + " seed 0;", fitsNumber ? 0 : 1, fitsNumber ? -1 : 18);
        }
    }

    private static void numbers() {
        Doc.says("section 1", "a number is a maximal run of digits, 1 to 3 of them.");
        good("source a records 7 seed 0;");
        good("source a records 77 seed 0;");
        good("source a records 177 seed 009;");
        parsed("source a records 0177 seed 0;", 1, 17);
        parsed("source a records 0000 seed 0;", 1, 17);
        parsed("source a records 1 77 seed 0;", 1, 19);
        parsed("source a records " + "0".repeat(200) + " seed 0;", 1, 17);
        parsed("source a records 4294967296 seed 0;", 1, 17);
        parsed("source a records / seed 0;", 1, 17);
        parsed("source a records : seed 0;", 1, 17);
        parsed("source a records -1 seed 0;", 1, 17);
        parsed("source a records +1 seed 0;", 1, 17);
        parsed("room 0004;", 1, 5);
        parsed("1234", 1, 0);
        Check.due("090 is 90", 90, () -> Flows.of("source a records 090 seed 0;").source(0, 0));
        Check.due("with each digit", "[123, 456, 7, 89, 0]", () -> {
            BarrierFlow flow = Flows.of("source a records 123 seed 456 lag 7;every 89;");
            return java.util.List.of(flow.source(0, 0), flow.source(0, 1), flow.source(0, 2), flow.count(4),
                    flow.count(5));
        });
    }

    private static void spaces() {
        Doc.says("section 1", "Spaces (byte 32) and line feeds (byte 10) may stand between tokens.");
        good("  \n source \n a\n\nrecords  0\nseed 0 \n ; \n");
        good("\nsource\na\nrecords\n0\nseed\n0\n;\n");
        good("source a records0seed0;");
        good("source a records0seed0lag0;room1;");
        parsed("\nsource\na\nrecords\n0\nseed\n0\nx", 1, 27);
        for (int value : new int[] {0, 9, 11, 12, 13, 31, 33, 127, 128, 160, 138, 255}) {
            parsed(PLAIN + (char) value, 1, 26);
        }
    }

    private static void offsets() {
        Doc.says("section 1", "which is the index of the first byte of the token at fault, "
                + "or the length of the text if more is required.");
        parsed("x", 1, 0);
        parsed("   abcdefghijkl", 1, 3);
        parsed("source a records  201 seed 0;", 2, 18);
        parsed("source", 1, 6);
        parsed("source a", 1, 8);
        parsed("source a records", 1, 16);
        parsed("source a records 0", 1, 18);
        parsed("source a records 0 seed", 1, 23);
        parsed("source a records 0 seed 0", 1, 25);
        parsed("source a records 0 seed 0 lag", 1, 29);
        parsed("source a records 0 seed 0 lag 0", 1, 31);
        parsed("source a records 0 seed 0 \n", 1, 27);
        parsed(PLAIN + "overtake", 1, 34);
        parsed(PLAIN + "overtake  ", 1, 36);
        parsed(PLAIN + "room", 1, 30);
        parsed(PLAIN + "room 4", 1, 32);
    }

    private static void firstOfSeveral() {
        Doc.says("section 1", "The first error from the left is reported;");
        parsed("room 10;room 10;x", 2, 5);
        parsed("x room 10;", 1, 0);
        parsed(PLAIN + "source a records 201 seed", 3, 33);
        parsed("source a records 201 seed 0;source a", 2, 17);
        parsed("sinks 3", 2, 6);
        Doc.says("section 1", "if several codes apply to a token, the smallest one.");
        // a number that is too long and out of its range
        parsed("source a records 1000 seed 0;", 1, 17);
        parsed("room 1000;", 1, 5);
        parsed("every 9999;", 1, 6);
        // the end of a text in which a statement is not complete and there is no source
        parsed("room 4", 1, 6);
        parsed("source a records 0 seed 0", 1, 25);
        // the first word of a 5th source is that of a source, which may stand more than once
        parsed(four() + "source", 4, four().length());
    }

    private static String four() {
        return "source a" + REST + "source b" + REST + "source c" + REST + "source d" + REST;
    }

    private static void codes() {
        Doc.says("section 1", "1: a token that cannot stand there, a name or a number that is too long,");
        parsed(PLAIN + "lag 0;", 1, 26);
        parsed(PLAIN + "7;", 1, 26);
        parsed("source abcdefghi records 0 seed 0;", 1, 7);
        parsed("abcdefghi", 1, 0);
        parsed("every 0000;", 1, 6);
        Doc.says("section 1", "3: a name that a source has already;");
        parsed(PLAIN + "source a", 3, 33);
        parsed(PLAIN + "source aa", 1, 35);
        Doc.says("section 1", "4: the first word of a 5th source.");
        good(four());
        parsed(four() + "source", 4, 104);
        parsed(four() + "room 4; source e" + REST, 4, 112);
        parsed(four() + "source a" + REST, 4, 104);
        parsed(four() + "sources", 1, 104);
        Doc.says("section 1", "5: at the end of the text: there is no source.");
        parsed("", 5, 0);
        parsed(" ", 5, 1);
        parsed("\n\n", 5, 2);
        parsed("instances 4;", 5, 12);
        parsed("overtake; ", 5, 10);
        parsed("overtake", 1, 8);
        Doc.says("section 1", "An error has a code and an offset,");
        parsed("room 9;instances 4;sinks 2;every 99;overtake;", 5, 45);
        Doc.says("promise 5", "Returns 1 to 5;");
        String[] texts = {"x", "room 0;", "room 1;room", four() + "source", ""};
        for (int n = 0; n < 5; n++) {
            BarrierFlow flow = new BarrierFlow();
            int code = n + 1;
            Check.due("no source", -1, () -> Flows.parse(flow, texts[code - 1]));
            Check.due(texts[n], code, flow::errorCode);
        }
    }

    private static BarrierFlow used() {
        BarrierFlow flow = Flows.of("source a records 50 seed 0;source b records 50 seed 8 lag 3;every 5;overtake;"
                + "instances 3;sinks 2;room 3;");
        flow.run(11);
        flow.rescale(4);
        flow.saveState();
        flow.run(8);
        flow.setRoom(8);
        flow.setLag(0, 9);
        flow.setEvery(3, false);
        flow.begin(true);
        return flow;
    }

    private static void parse() {
        Doc.says("promise 4", "Parses the input buffer and empties it, whether it succeeds or not.");
        BarrierFlow flow = used();
        Flows.type(flow, PLAIN);
        Check.due("good", 1, flow::parse);
        Check.due("empty", false, () -> flow.truncate(1));
        Flows.type(flow, PLAIN + "x");
        Check.due("wrong", -1, flow::parse);
        Check.due("empty, too", false, () -> flow.truncate(1));
        Check.due("an empty one", -1, flow::parse);
        Doc.says("promise 4", "On success everything but the output is as at first, with the setup of the text:");
        for (String text : new String[] {PLAIN, "source q records 30 seed 6 lag 2;instances 2;sinks 2;every 4;"}) {
            BarrierFlow other = used();
            String output = Flows.print(other, 0);
            Check.due("something was shown", true, () -> output.length() > 9);
            Flows.parse(other, "x");
            Flows.parse(other, text);
            BarrierFlow fresh = Flows.of(text);
            Check.due("as a new one", Flows.look(fresh), () -> Flows.look(other));
            Check.due("no error", 0, other::errorCode);
            Check.due("no offset", -1, other::errorOffset);
            Check.due("the output stays", output, () -> Flows.output(other));
            Doc.says("promise 4", "the time is 0, all channels are empty, there was no checkpoint, nothing can be undone, "
                    + "and no state is saved.");
            Check.due("the time", 0, () -> other.count(5));
            Check.due("no checkpoint began", 0, () -> other.count(6));
            Check.due("none is in progress", -1, () -> other.progress(0));
            Check.due("none was completed", -1, () -> other.completed(0));
            Check.due("channels are empty", 0, () -> other.instance(0, 3) + other.instance(0, 4));
            Check.due("nothing to undo", 0, () -> other.count(10));
            Check.tooEarly("nothing can be undone", other::undo);
            Check.tooEarly("no state is saved", other::restoreState);
            other.run(9);
            fresh.run(9);
            Check.due("and goes on as a new one", Flows.look(fresh), () -> Flows.look(other));
        }
    }

    private static void parseRefused() {
        Doc.says("promise 4", "NONE if the text has an error, in which case everything but the buffer and the error is kept.");
        String[] texts = {"", "source c records 7 seed 7 lag 7;instances 1;sinks 1;room 1;every 1;overtake;x",
            "source a records 201 seed 0;", PLAIN + "source a", four() + "source"};
        for (String text : texts) {
            BarrierFlow flow = used();
            String output = Flows.print(flow, 1);
            String look = Flows.look(flow);
            Check.due("'" + text + "'", -1, () -> Flows.parse(flow, text));
            Check.due("kept", look, () -> Flows.look(flow));
            Check.due("the output is kept", output, () -> Flows.output(flow));
            Check.due("the names are kept", 1, () -> Flows.find(flow, "b"));
            Check.due("no new name", -1, () -> Flows.find(flow, "c"));
            Check.due("changes are kept", 5, flow::undo);
            Check.due("one is undone", -1, () -> flow.progress(0));
            Check.due("the saved state is kept", 11, flow::restoreState);
        }
    }

    private static void latestError() {
        Doc.says("promise 5", "0 if that text had no error or there was no such call.");
        BarrierFlow flow = new BarrierFlow();
        Check.due("no call", 0, flow::errorCode);
        Flows.parse(flow, PLAIN);
        Check.due("no error", 0, flow::errorCode);
        Doc.says("promise 5", "Returns the error code of the latest call of parse.");
        Flows.parse(flow, "room 0;");
        Check.due("a wrong one", 2, flow::errorCode);
        Flows.find(flow, "a");
        flow.run(1);
        Check.due("also after other calls", 2, flow::errorCode);
        Check.due("asked twice", 2, flow::errorCode);
        Flows.parse(flow, "");
        Check.due("another wrong one", 5, flow::errorCode);
        Flows.parse(flow, PLAIN);
        Check.due("a good one", 0, flow::errorCode);

        Doc.says("promise 6", "NONE if that text had no error or there was no such call.");
        BarrierFlow other = new BarrierFlow();
        Check.due("no call", -1, other::errorOffset);
        Flows.parse(other, PLAIN);
        Check.due("no error", -1, other::errorOffset);
        Doc.says("promise 6", "Returns the error offset of the latest call of parse.");
        Flows.parse(other, "room 0;");
        Check.due("a wrong one", 5, other::errorOffset);
        Flows.find(other, "a");
        Check.due("also after other calls", 5, other::errorOffset);
        Flows.parse(other, "x");
        Check.due("the first byte", 0, other::errorOffset);
        Flows.parse(other, blanks(300));
        Check.due("the greatest one", 300, other::errorOffset);
        Flows.parse(other, PLAIN);
        Check.due("a good one", -1, other::errorOffset);
    }

    private static void find() {
        Doc.says("promise 8", "Finds a source by the name that is the whole content of the input buffer, "
                + "which is empty afterwards.");
        BarrierFlow flow = Flows.of("source z" + REST + "source abcdefgh" + REST + "source ab" + REST + "source a" + REST);
        String[] names = {"z", "abcdefgh", "ab", "a"};
        for (int s = 0; s < 4; s++) {
            int due = s;
            Check.due(names[s], due, () -> Flows.find(flow, names[due]));
            Check.due("empty afterwards", false, () -> flow.truncate(1));
        }
        Doc.says("promise 8", "NONE if there is none with this name.");
        for (String text : new String[] {"", " ", "b", "A", "a ", " a", "a\n", "a;", "aa", "abc", "abcdefg", "abcdefghi",
            "xbcdefgh", "abcdefgx", "source", "a".repeat(300), "\u00e1", "a\u0000"}) {
            Check.due("'" + text + "'", -1, () -> Flows.find(flow, text));
            Check.due("empty afterwards, too", false, () -> flow.truncate(1));
        }
        BarrierFlow plain = Flows.of("source bb" + REST);
        Check.due("a name of the text before", -1, () -> Flows.find(plain, "a"));
        Check.due("a name that is longer", -1, () -> Flows.find(plain, "bbb"));
        Check.due("the name", 0, () -> Flows.find(plain, "bb"));
        Check.due("the error stays", 0, plain::errorCode);
    }
}
