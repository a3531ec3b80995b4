import java.util.Random;

/** Holds the program against the model: the same 512 calls on both, on many objects, with fixed seeds. */
final class ModelTest {
    private static final int OBJECTS = 3000;
    private static final int CALLS = 512;
    // what one round of changes and looks needs at most, but for the output, which looks first what is left
    private static final int ROUND = 70;

    private final BarrierFlow flow = new BarrierFlow();
    private final Model model = new Model();
    private final Random random;
    private final StringBuilder log = new StringBuilder();
    private boolean holds = true;
    private int left = CALLS;

    private ModelTest(int seed) {
        random = new Random(seed);
    }

    public static void main(String[] args) {
        int objects = args.length > 0 ? Integer.parseInt(args[0]) : OBJECTS;
        int first = args.length > 1 ? Integer.parseInt(args[1]) : 0;
        for (int seed = first; seed < first + objects; seed++) {
            ModelTest test = new ModelTest(seed);
            test.callAll();
            if (!test.holds) {
                System.out.println("object " + seed + ":\n" + test.log);
            }
            Check.due("object " + seed, true, () -> test.holds);
        }
        Check.end("ModelTest");
    }

    private void callAll() {
        parseGood();
        while (left >= ROUND && holds) {
            int changes = 1 + below(4);
            for (int n = 0; n < changes; n++) {
                callOne();
            }
            int looks = below(3) == 0 ? 12 : 4;
            for (int n = 0; n < looks; n++) {
                look();
            }
        }
    }

    private int below(int bound) {
        return random.nextInt(bound);
    }

    /** Mostly a number of the range, now and then one beside it. */
    private int near(int least, int most) {
        int kind = below(40);
        if (kind == 0) {
            return least - 1;
        }
        if (kind == 1) {
            return most + 1;
        }
        if (kind == 2) {
            return below(2) == 0 ? Integer.MIN_VALUE : Integer.MAX_VALUE;
        }
        return least + below(most - least + 1);
    }

    private int ticks() {
        return below(5) == 0 ? near(1, 500) : near(1, below(3) == 0 ? 40 : 6);
    }

    private void same(String name, Check.Call got, Check.Call due) {
        left--;
        String a = Check.answerOf(got);
        String b = Check.answerOf(due);
        if (holds) {
            log.append(name).append(" -> ").append(a).append('\n');
        }
        if (!a.equals(b)) {
            holds = false;
            log.append("  the model answers ").append(b).append('\n');
        }
    }

    private void type(String text) {
        flow.truncate(0);
        Flows.type(flow, text);
        left -= 2 + (text.length() + 19) / 20;
        model.buffer = text;
        log.append("type ").append(text).append('\n');
    }

    private void parse() {
        same("parse", flow::parse, model::parse);
        same("errorCode", flow::errorCode, () -> model.error);
        same("errorOffset", flow::errorOffset, () -> model.errorAt);
    }

    private String pick(String... words) {
        return words[below(words.length)];
    }

    private void parseGood() {
        StringBuilder text = new StringBuilder();
        int sources = 1 + below(4);
        for (int s = 0; s < sources; s++) {
            text.append("source ").append(new String[] {"a", "bcd", "longname", "zz"}[s]);
            text.append(" records ").append(below(4) == 0 ? 200 : below(below(3) == 0 ? 10 : 201));
            text.append(" seed ").append(below(1000));
            text.append(below(2) == 0 ? ";" : " lag " + below(10) + ";\n");
        }
        text.append(below(5) == 0 ? "" : "instances " + (1 + below(4)) + ";");
        text.append(below(3) == 0 ? "" : "sinks " + (1 + below(2)) + ";");
        text.append(below(4) == 0 ? "" : "room " + (1 + below(9)) + ";");
        text.append(below(3) == 0 ? "" : "every " + below(below(2) == 0 ? 12 : 100) + ";");
        text.append(below(2) == 0 ? "" : "overtake;");
        type(text.toString());
        parse();
    }

    private void parseBad() {
        StringBuilder text = new StringBuilder();
        int tokens = 1 + below(24);
        for (int n = 0; n < tokens; n++) {
            text.append(pick("source a records 5 seed 7;", "source bb records 9 seed 3 lag 2;", "source c records 0",
                    "seed 12", "lag 3", ";", ";", "instances 3;", "sinks 2;", "room 7;", "every 9;", "overtake;",
                    "source", "lag 10;", "room 0;", "0012", "1000", "201", "ninechars", "A", "\n", "\t", "\u00ff"));
            text.append(pick("", " ", " ", "\n", "  "));
        }
        type(text.length() > 300 ? text.substring(0, 300) : text.toString());
        parse();
    }

    private void feedAny() {
        byte[] bytes = new byte[20];
        random.nextBytes(bytes);
        same("feed", () -> flow.feed(Flows.word(bytes, 0), Flows.word(bytes, 4), Flows.word(bytes, 8),
                Flows.word(bytes, 12), Flows.word(bytes, 16)), () -> model.feed(bytes));
    }

    private void callOne() {
        int kind = below(100);
        if (kind < 30) {
            int ticks = ticks();
            same("run " + ticks, () -> flow.run(ticks), () -> model.run(ticks));
        } else if (kind < 40) {
            boolean overtaking = below(3) > 0;
            same("begin " + overtaking, () -> flow.begin(overtaking), () -> model.begin(overtaking));
        } else if (kind < 46) {
            same("fail", flow::fail, model::fail);
        } else if (kind < 54) {
            int instances = near(1, 4);
            same("rescale " + instances, () -> flow.rescale(instances), () -> model.rescale(instances));
        } else if (kind < 66) {
            change();
        } else if (kind < 74) {
            same("undo", flow::undo, model::undo);
        } else if (kind < 92) {
            forecast();
        } else {
            rest();
        }
    }

    private void change() {
        int kind = below(3);
        if (kind == 0) {
            int room = near(1, 9);
            same("setRoom " + room, () -> flow.setRoom(room), () -> model.setRoom(room));
        } else if (kind == 1) {
            int source = near(0, 3);
            int lag = near(0, 9);
            same("setLag " + source + " " + lag, () -> flow.setLag(source, lag), () -> model.setLag(source, lag));
        } else {
            int every = below(2) == 0 ? near(0, 99) : near(0, 9);
            boolean overtaking = below(2) == 0;
            same("setEvery " + every, () -> flow.setEvery(every, overtaking), () -> model.setEvery(every, overtaking));
        }
    }

    private void forecast() {
        int kind = below(6);
        int ticks = ticks();
        if (kind == 0) {
            same("completesIn " + ticks, () -> flow.completesIn(ticks), () -> model.completesIn(ticks));
        } else if (kind == 1) {
            same("wouldTake true", () -> flow.wouldTake(true), () -> model.wouldTake(true));
        } else if (kind == 2) {
            same("wouldTake false", () -> flow.wouldTake(false), () -> model.wouldTake(false));
        } else if (kind == 3) {
            same("wouldKeep", flow::wouldKeep, model::wouldKeep);
        } else if (kind == 4 && below(4) == 0) {
            same("quietIn", flow::quietIn, model::quietIn);
        } else if (kind == 5 && below(3) == 0) {
            int few = near(1, 60);
            same("bestInstances " + few, () -> flow.bestInstances(few), () -> model.bestInstances(few));
        }
    }

    private void rest() {
        int kind = below(10);
        if (kind < 3) {
            same("saveState", flow::saveState, model::saveState);
        } else if (kind < 5) {
            same("restoreState", flow::restoreState, model::restoreState);
        } else if (kind == 5) {
            feedAny();
            int length = near(0, 20);
            same("truncate " + length, () -> flow.truncate(length), () -> model.truncate(length));
        } else if (kind == 6) {
            type(pick("a", "bcd", "longname", "zz", "", "b", "a ", "zzz"));
            same("find", flow::find, model::find);
        } else if (kind == 7) {
            parseBad();
        } else if (kind == 8 && below(6) == 0) {
            parseGood();
        } else {
            int sink = near(0, 1);
            same("printSink " + sink, () -> flow.printSink(sink), () -> model.printSink(sink));
            if (left > model.output.length() + ROUND) {
                left -= model.output.length();
                same("output", () -> Flows.output(flow), () -> model.output);
            }
        }
    }

    private void look() {
        int kind = below(12);
        if (kind < 2) {
            lookAtNumbers(near(0, 11));
        } else if (kind < 4) {
            lookAtKey(near(0, 15));
        } else if (kind < 11) {
            lookAtPair(near(0, below(2) == 0 ? 1 : 3), near(0, below(2) == 0 ? 1 : 4));
        } else {
            lookAtAccounts();
        }
    }

    private void lookAtNumbers(int what) {
        int kind = below(3);
        if (kind == 0) {
            same("count " + what, () -> flow.count(what), () -> model.count(what));
        } else if (kind == 1) {
            same("progress " + what, () -> flow.progress(what), () -> model.progress(what));
        } else {
            same("completed " + what, () -> flow.completed(what), () -> model.completed(what));
        }
    }

    private void lookAtKey(int key) {
        int many = near(1, 40);
        switch (below(5)) {
            case 0: same("owner " + key, () -> flow.owner(key), () -> model.owner(key)); break;
            case 1: same("sum " + key, () -> flow.sum(key), () -> model.sum(key)); break;
            case 2: same("notedSum " + key, () -> flow.notedSum(key), () -> model.notedSum(key)); break;
            case 3: same("shownOf " + key, () -> flow.shownOf(key), () -> model.shownOf(key)); break;
            default: same("expected " + key + " " + many, () -> flow.expected(key, many), () -> model.expected(key, many));
        }
    }

    private void lookAtAccounts() {
        switch (below(4)) {
            case 0: same("atRisk", flow::atRisk, model::atRisk); break;
            case 1: same("repeated", flow::repeated, model::repeated); break;
            case 2: same("skew", flow::skew, model::skew); break;
            default: same("fullest", flow::fullest, model::fullest);
        }
    }

    private void lookAtPair(int x, int y) {
        String pair = " " + x + " " + y;
        int index = near(0, below(2) == 0 ? 12 : 200);
        int what = near(0, 1);
        boolean barriers = below(3) == 0;
        switch (below(9)) {
            case 0: same("source" + pair, () -> flow.source(x, y), () -> model.source(x, y)); break;
            case 1: same("record" + pair, () -> flow.record(x, index, y), () -> model.record(x, index, y)); break;
            case 2: same("sink" + pair, () -> flow.sink(x, y), () -> model.sink(x, y)); break;
            case 3:
                same("shown " + x + " " + index + " " + what, () -> flow.shown(x, index, what),
                        () -> model.shown(x, index, what));
                break;
            case 4:
                same("inChannel" + pair + barriers, () -> flow.inChannel(x, y, barriers),
                        () -> model.inChannel(x, y, barriers));
                break;
            case 5:
                same("outChannel" + pair + barriers, () -> flow.outChannel(x, y, barriers),
                        () -> model.outChannel(x, y, barriers));
                break;
            case 6: same("notedPosition" + pair, () -> flow.notedPosition(x), () -> model.notedPosition(x)); break;
            default: same("instance" + pair, () -> flow.instance(x, y), () -> model.instance(x, y));
        }
    }
}
