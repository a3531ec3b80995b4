import java.nio.charset.StandardCharsets;

/** Makes flows from texts. */
final class Flows {
    private Flows() {
    }

    /** Puts a text behind what the input buffer holds; mostHeld is its length. */
    static void type(BarrierFlow flow, int held, String text) {
        byte[] bytes = text.getBytes(StandardCharsets.ISO_8859_1);
        for (int at = 0; at < bytes.length; at += 20) {
            flow.feed(word(bytes, at), word(bytes, at + 4), word(bytes, at + 8),
                    word(bytes, at + 12), word(bytes, at + 16));
        }
        flow.truncate(held + bytes.length);
    }

    static void type(BarrierFlow flow, String text) {
        type(flow, 0, text);
    }

    static int word(byte[] bytes, int at) {
        int word = 0;
        for (int i = at; i < at + 4; i++) {
            word = word << 8 | (i < bytes.length ? bytes[i] & 255 : 0);
        }
        return word;
    }

    static int parse(BarrierFlow flow, String text) {
        type(flow, text);
        return flow.parse();
    }

    static BarrierFlow of(String text) {
        BarrierFlow flow = new BarrierFlow();
        if (parse(flow, text) < 1) {
            throw new IllegalArgumentException(text);
        }
        return flow;
    }

    static int find(BarrierFlow flow, String name) {
        type(flow, name);
        return flow.find();
    }

    /** The key of a record, by the formula of section 2. */
    static int keyOf(int source, int seed, int index) {
        return 4 * ((seed + index * index + index / 2) % 4) + source;
    }

    /** How many of the first records of its source have a key. */
    static int recordsOf(int key, int seed, int first) {
        int many = 0;
        for (int i = 0; i < first; i++) {
            many += keyOf(key % 4, seed, i) == key ? 1 : 0;
        }
        return many;
    }

    /** The sum of the values of the first records of a key, if its source has as many. */
    static int sumOf(int key, int seed, int many) {
        int sum = 0;
        int left = many;
        for (int i = 0; left > 0; i++) {
            if (keyOf(key % 4, seed, i) == key) {
                sum += (seed + 7 * i) % 50 + 1;
                left--;
            }
        }
        return sum;
    }

    static String output(BarrierFlow flow) {
        StringBuilder text = new StringBuilder();
        int next = flow.outputByte(0);
        for (int i = 1; next != BarrierFlow.NONE; i++) {
            text.append((char) next);
            next = flow.outputByte(i);
        }
        return text.toString();
    }

    static String print(BarrierFlow flow, int sink) {
        flow.printSink(sink);
        return output(flow);
    }

    /** What the methods tell of a flow, but for the changes that can be undone; some 180 calls at most. */
    static String look(BarrierFlow flow) {
        StringBuilder text = new StringBuilder();
        for (int what = 0; what <= 11; what++) {
            text.append(what == 10 ? 0 : flow.count(what)).append(' ');
        }
        text.append("sources");
        for (int s = 0; s < flow.count(0); s++) {
            lookAtSource(flow, s, text);
        }
        text.append("\ninstances");
        for (int i = 0; i < flow.count(1); i++) {
            lookAtInstance(flow, i, text);
        }
        text.append("\nsinks");
        for (int k = 0; k < flow.count(2); k++) {
            lookAtSink(flow, k, text);
        }
        text.append("\nkeys");
        for (int key = 0; key < 16; key++) {
            text.append(' ').append(flow.sum(key)).append('/').append(flow.notedSum(key)).append('/')
                    .append(flow.shownOf(key));
        }
        text.append("\ncheckpoints");
        for (int what = 0; what <= 6; what++) {
            text.append(' ').append(flow.progress(what)).append('/').append(what < 6 ? flow.completed(what) : 0);
        }
        text.append("\naccounts ").append(flow.atRisk()).append(' ').append(flow.repeated()).append(' ')
                .append(flow.skew()).append(' ').append(flow.fullest());
        return text.toString();
    }

    private static void lookAtSource(BarrierFlow flow, int source, StringBuilder text) {
        for (int what = 0; what <= 3; what++) {
            text.append(' ').append(flow.source(source, what));
        }
        text.append('/').append(flow.notedPosition(source));
        for (int i = 0; i < flow.count(1); i++) {
            text.append('/').append(flow.inChannel(source, i, false)).append('+')
                    .append(flow.inChannel(source, i, true));
        }
    }

    private static void lookAtInstance(BarrierFlow flow, int instance, StringBuilder text) {
        for (int what = 0; what <= 4; what++) {
            text.append(' ').append(flow.instance(instance, what));
        }
        for (int k = 0; k < flow.count(2); k++) {
            text.append('/').append(flow.outChannel(instance, k, false)).append('+')
                    .append(flow.outChannel(instance, k, true));
        }
    }

    private static void lookAtSink(BarrierFlow flow, int sink, StringBuilder text) {
        for (int what = 0; what <= 3; what++) {
            text.append(' ').append(flow.sink(sink, what));
        }
        int last = flow.sink(sink, 2) - 1;
        if (last >= 0) {
            text.append('/').append(flow.shown(sink, last, 0)).append('=').append(flow.shown(sink, last, 1));
        }
    }
}
