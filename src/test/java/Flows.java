import java.nio.charset.StandardCharsets;

/** Makes flows from texts. */
final class Flows {
    private Flows() {
    }

    /** Puts a text behind what the input buffer holds; mostHeld is its length. */
    static void type(BarrierFlow flow, int held, String text) {
        byte[] bytes = text.getBytes(StandardCharsets.ISO_8859_1);
        for (int at = 0; at < bytes.length; at += 20) {
            flow.feed(word(bytes, at), word(bytes, at + 4), word(bytes, at + 8),
                    word(bytes, at + 12), word(bytes, at + 16));
        }
        flow.truncate(held + bytes.length);
    }

    static void type(BarrierFlow flow, String text) {
        type(flow, 0, text);
    }

    static int word(byte[] bytes, int at) {
        int word = 0;
        for (int i = at; i < at + 4; i++) {
            word = word << 8 | (i < bytes.length ? bytes[i] & 255 : 0);
        }
        return word;
    }

    static int parse(BarrierFlow flow, String text) {
        type(flow, text);
        return flow.parse();
    }

    static BarrierFlow of(String text) {
        BarrierFlow flow = new BarrierFlow();
        if (parse(flow, text) < 1) {
            throw new IllegalArgumentException(text);
        }
        return flow;
    }

    static int find(BarrierFlow flow, String name) {
        type(flow, name);
        return flow.find();
    }

    static String output(BarrierFlow flow) {
        StringBuilder text = new StringBuilder();
        for (int i = 0; flow.outputByte(i) != BarrierFlow.NONE; i++) {
            text.append((char) flow.outputByte(i));
        }
        return text.toString();
    }
}
