import java.util.ArrayList;
import java.util.HashMap;
import java.util.List;
import java.util.Map;
import java.util.NoSuchElementException;
import java.util.regex.Matcher;
import java.util.regex.Pattern;

/**
 * A second flow, written from the document word by word with the Java library and without any thought of
 * room: results carry their sums, a copy copies all. ModelTest holds BarrierFlow against it.
 */
final class Model {
    static final int NONE = -1;

    /** A record, a result or a barrier (then all is 0) in a channel or a sink. */
    static final class Thing {
        final boolean barrier;
        final int key;
        final int number;

        Thing(boolean barrier, int key, int number) {
            this.barrier = barrier;
            this.key = key;
            this.number = number;
        }
    }

    /** The way to a receiver ("i0" or "k0") from a sender. */
    static final class Channels {
        final Map<String, List<Thing>> things = new HashMap<>();

        List<Thing> of(String receiver, int sender) {
            return things.computeIfAbsent(receiver + "/" + sender, k -> new ArrayList<>());
        }

        Channels copy() {
            Channels other = new Channels();
            things.forEach((name, list) -> other.things.put(name, new ArrayList<>(list)));
            return other;
        }

        int records() {
            int many = 0;
            for (List<Thing> list : things.values()) {
                many += count(list, false);
            }
            return many;
        }
    }

    static final class Checkpoint {
        int number;
        int began;
        int ended;
        boolean overtaking;
        boolean shown;
        Map<Integer, Integer> positions = new HashMap<>();
        Map<Integer, Integer> sums = new HashMap<>();
        Map<String, List<Integer>> arrived = new HashMap<>();
        Channels kept = new Channels();

        List<Integer> arrivedAt(String receiver) {
            return arrived.computeIfAbsent(receiver, k -> new ArrayList<>());
        }

        int arrivals(String kind) {
            int many = 0;
            for (Map.Entry<String, List<Integer>> e : arrived.entrySet()) {
                many += e.getKey().startsWith(kind) ? e.getValue().size() : 0;
            }
            return many;
        }

        Checkpoint copy() {
            Checkpoint c = new Checkpoint();
            c.number = number;
            c.began = began;
            c.ended = ended;
            c.overtaking = overtaking;
            c.shown = shown;
            c.positions = new HashMap<>(positions);
            c.sums = new HashMap<>(sums);
            arrived.forEach((name, list) -> c.arrived.put(name, new ArrayList<>(list)));
            c.kept = kept.copy();
            return c;
        }
    }

    static final class Source {
        String name;
        int records;
        int seed;
        int lag;
        int position;

        Source(String name, int records, int seed, int lag) {
            this.name = name;
            this.records = records;
            this.seed = seed;
            this.lag = lag;
        }

        Source copy() {
            Source s = new Source(name, records, seed, lag);
            s.position = position;
            return s;
        }
    }

    static final class State {
        List<Source> sources = new ArrayList<>();
        int instances = 1;
        int sinks = 1;
        int room = 4;
        int every;
        boolean overtake;
        int time;
        int begun;
        int finished;
        int failures;
        int sent;
        int[] sums = new int[16];
        int[] handled = new int[4];
        Channels channels = new Channels();
        Map<String, List<Integer>> blocked = new HashMap<>();
        Map<String, Integer> lastTaken = new HashMap<>();
        List<List<Thing>> open = lists();
        List<List<Thing>> closed = lists();
        List<List<Thing>> shown = lists();
        Checkpoint pending;
        Checkpoint latest;

        static List<List<Thing>> lists() {
            return new ArrayList<>(List.of(new ArrayList<>(), new ArrayList<>()));
        }

        static List<List<Thing>> copyOf(List<List<Thing>> lists) {
            List<List<Thing>> copy = new ArrayList<>();
            lists.forEach(l -> copy.add(new ArrayList<>(l)));
            return copy;
        }

        State copy() {
            State s = new State();
            sources.forEach(x -> s.sources.add(x.copy()));
            s.instances = instances;
            s.sinks = sinks;
            s.room = room;
            s.every = every;
            s.overtake = overtake;
            s.time = time;
            s.begun = begun;
            s.finished = finished;
            s.failures = failures;
            s.sent = sent;
            s.sums = sums.clone();
            s.handled = handled.clone();
            s.channels = channels.copy();
            blocked.forEach((name, list) -> s.blocked.put(name, new ArrayList<>(list)));
            s.lastTaken = new HashMap<>(lastTaken);
            s.open = copyOf(open);
            s.closed = copyOf(closed);
            s.shown = copyOf(shown);
            s.pending = pending == null ? null : pending.copy();
            s.latest = latest == null ? null : latest.copy();
            return s;
        }
    }

    State now = new State();
    State saved;
    List<State> past = new ArrayList<>();
    String buffer = "";
    String output = "";
    int error = 0;
    int errorAt = NONE;

    Model() {
        now.sources.add(new Source("a", 0, 0, 0));
    }

    static int count(List<Thing> list, boolean barriers) {
        int many = 0;
        for (Thing t : list) {
            many += t.barrier == barriers ? 1 : 0;
        }
        return many;
    }

    // ---- the text

    private static final class Fault extends Exception {
        private static final long serialVersionUID = 1;
        final int code;
        final int at;

        Fault(int code, int at) {
            super("code " + code + " at " + at);
            this.code = code;
            this.at = at;
        }
    }

    private static final Pattern TOKEN = Pattern.compile("[ \n]*(?:([a-z]+)|([0-9]+)|(;)|(\\z)|([\\x00-\\xff]))");
    private static final List<String> QUOTED = List.of("source", "records", "seed", "lag", "instances", "sinks",
            "room", "every", "overtake");
    private static final Map<String, int[]> RANGES = Map.of("records", new int[] {0, 200},
            "seed", new int[] {0, 999}, "lag", new int[] {0, 9}, "instances", new int[] {1, 4},
            "sinks", new int[] {1, 2}, "room", new int[] {1, 9}, "every", new int[] {0, 99});

    private List<String> tokens;
    private List<Integer> offsets;
    private int at;

    int parse() {
        String text = buffer;
        buffer = "";
        try {
            State s = read(text);
            now = s;
            saved = null;
            past.clear();
            error = 0;
            errorAt = NONE;
            return s.sources.size();
        } catch (Fault f) {
            error = f.code;
            errorAt = f.at;
            return NONE;
        }
    }

    private State read(String text) throws Fault {
        tokens = new ArrayList<>();
        offsets = new ArrayList<>();
        at = 0;
        Matcher m = TOKEN.matcher(text);
        while (m.lookingAt()) {
            int group = 1;
            while (m.group(group) == null) {
                group++;
            }
            tokens.add(m.group(group));
            offsets.add(m.start(group));
            if (group == 4) {
                break;
            }
            m.region(m.end(), text.length());
        }
        State s = new State();
        List<String> once = new ArrayList<>();
        while (!peek().isEmpty()) {
            statement(s, once);
            eat(";");
        }
        if (s.sources.isEmpty()) {
            throw new Fault(5, text.length());
        }
        return s;
    }

    private String peek() {
        return tokens.get(at);
    }

    private Fault fault(int code) {
        return new Fault(code, offsets.get(at));
    }

    private void eat(String token) throws Fault {
        if (!peek().equals(token)) {
            throw fault(1);
        }
        at++;
    }

    private int number(String word) throws Fault {
        if (!peek().matches("[0-9]{1,3}")) {
            throw fault(1);
        }
        int number = Integer.parseInt(peek());
        int[] range = RANGES.get(word);
        if (number < range[0] || number > range[1]) {
            throw fault(2);
        }
        at++;
        return number;
    }

    private void statement(State s, List<String> once) throws Fault {
        String first = peek();
        switch (first) {
            case "source" -> source(s);
            case "instances", "sinks", "room", "every", "overtake" -> {
                if (once.contains(first)) {
                    throw fault(3);
                }
                once.add(first);
                at++;
                int number = first.equals("overtake") ? 1 : number(first);
                switch (first) {
                    case "instances" -> s.instances = number;
                    case "sinks" -> s.sinks = number;
                    case "room" -> s.room = number;
                    case "every" -> s.every = number;
                    default -> s.overtake = true;
                }
            }
            default -> throw fault(1);
        }
    }

    private void source(State s) throws Fault {
        if (s.sources.size() == 4) {
            throw fault(4);
        }
        at++;
        String name = peek();
        if (!name.matches("[a-z]{1,8}") || QUOTED.contains(name)) {
            throw fault(1);
        }
        for (Source other : s.sources) {
            if (other.name.equals(name)) {
                throw fault(3);
            }
        }
        at++;
        eat("records");
        int records = number("records");
        eat("seed");
        int seed = number("seed");
        int lag = 0;
        if (peek().equals("lag")) {
            at++;
            lag = number("lag");
        }
        s.sources.add(new Source(name, records, seed, lag));
    }

    // ---- records

    static int key(State s, int source, int index) {
        int seed = s.sources.get(source).seed;
        return 4 * ((seed + index * index + index / 2) % 4) + source;
    }

    static int value(State s, int source, int index) {
        return (s.sources.get(source).seed + 7 * index) % 50 + 1;
    }

    static int owner(int key, int instances) {
        return (key % 8) * instances / 8;
    }

    static int sinkOf(State s, int key) {
        return (key / 4) % s.sinks;
    }

    // ---- a tick

    static void tick(State s) {
        if (s.every != 0 && s.time % s.every == 0 && s.pending == null) {
            begin(s, s.overtake);
        }
        show(s);
        for (int x = 0; x < s.sources.size(); x++) {
            Source source = s.sources.get(x);
            if (s.pending != null && !s.pending.positions.containsKey(x)
                    && s.time - s.pending.began >= source.lag) {
                s.pending.positions.put(x, source.position);
                for (int i = 0; i < s.instances; i++) {
                    s.channels.of("i" + i, x).add(new Thing(true, 0, 0));
                }
            }
            if (source.position < source.records) {
                int key = key(s, x, source.position);
                List<Thing> channel = s.channels.of("i" + owner(key, s.instances), x);
                if (count(channel, false) < s.room) {
                    channel.add(new Thing(false, key, value(s, x, source.position)));
                    source.position++;
                    s.sent++;
                }
            }
        }
        overtake(s, "i", s.instances, s.sources.size());
        for (int i = 0; i < s.instances; i++) {
            handleOne(s, "i", i, s.sources.size());
        }
        overtake(s, "k", s.sinks, s.instances);
        for (int k = 0; k < s.sinks; k++) {
            handleOne(s, "k", k, s.instances);
        }
        if (s.pending != null && s.pending.positions.size() == s.sources.size()
                && s.pending.arrivals("i") == s.sources.size() * s.instances
                && s.pending.arrivals("k") == s.instances * s.sinks) {
            s.latest = s.pending;
            s.latest.ended = s.time;
            s.pending = null;
            s.finished++;
        }
        s.time++;
    }

    static void begin(State s, boolean overtaking) {
        s.begun++;
        s.pending = new Checkpoint();
        s.pending.number = s.begun;
        s.pending.began = s.time;
        s.pending.overtaking = overtaking;
    }

    static void show(State s) {
        if (s.latest != null && !s.latest.shown) {
            s.latest.shown = true;
            for (int k = 0; k < s.sinks; k++) {
                s.shown.get(k).addAll(s.closed.get(k));
                s.closed.get(k).clear();
            }
        }
    }

    static void overtake(State s, String kind, int receivers, int senders) {
        if (s.pending == null || !s.pending.overtaking) {
            return;
        }
        for (int r = 0; r < receivers; r++) {
            for (int from = 0; from < senders; from++) {
                if (count(s.channels.of(kind + r, from), true) > 0) {
                    arrive(s, kind, r, from, senders);
                }
            }
        }
    }

    static void handleOne(State s, String kind, int r, int senders) {
        String receiver = kind + r;
        int last = s.lastTaken.getOrDefault(receiver, -1);
        for (int n = 1; n <= senders; n++) {
            int from = (last + n) % senders;
            List<Thing> channel = s.channels.of(receiver, from);
            if (channel.isEmpty() || s.blocked.getOrDefault(receiver, List.of()).contains(from)) {
                continue;
            }
            Thing first = channel.get(0);
            boolean record = kind.equals("i") && !first.barrier;
            List<Thing> way = record ? s.channels.of("k" + sinkOf(s, first.key), r) : null;
            if (record && count(way, false) >= s.room) {
                continue;
            }
            s.lastTaken.put(receiver, from);
            if (first.barrier) {
                arrive(s, kind, r, from, senders);
                return;
            }
            channel.remove(0);
            if (s.pending != null && s.pending.overtaking && !s.pending.arrivedAt(receiver).isEmpty()
                    && !s.pending.arrivedAt(receiver).contains(from)) {
                s.pending.kept.of(receiver, from).add(first);
            }
            if (record) {
                s.sums[first.key] += first.number;
                s.handled[r]++;
                way.add(new Thing(false, first.key, s.sums[first.key]));
            } else {
                s.open.get(r).add(first);
            }
            return;
        }
    }

    static void arrive(State s, String kind, int r, int from, int senders) {
        String receiver = kind + r;
        List<Thing> channel = s.channels.of(receiver, from);
        List<Thing> before = new ArrayList<>();
        int index = 0;
        while (!channel.get(index).barrier) {
            before.add(channel.get(index));
            index++;
        }
        channel.remove(index);
        Checkpoint c = s.pending;
        c.arrivedAt(receiver).add(from);
        if (c.overtaking) {
            c.kept.of(receiver, from).addAll(before);
            if (c.arrivedAt(receiver).size() == 1) {
                cut(s, kind, r);
            }
            return;
        }
        s.blocked.computeIfAbsent(receiver, k -> new ArrayList<>()).add(from);
        if (c.arrivedAt(receiver).size() == senders) {
            cut(s, kind, r);
            s.blocked.remove(receiver);
        }
    }

    static void cut(State s, String kind, int r) {
        if (kind.equals("k")) {
            s.closed.set(r, s.open.get(r));
            s.open.set(r, new ArrayList<>());
            return;
        }
        for (int key = 0; key < 16; key++) {
            if (owner(key, s.instances) == r) {
                s.pending.sums.put(key, s.sums[key]);
            }
        }
        for (int k = 0; k < s.sinks; k++) {
            s.channels.of("k" + k, r).add(new Thing(true, 0, 0));
        }
    }

    static void fail(State s) {
        show(s);
        s.failures++;
        s.pending = null;
        s.open = State.lists();
        s.closed = State.lists();
        s.blocked.clear();
        s.lastTaken.clear();
        s.handled = new int[4];
        s.channels = s.latest == null ? new Channels() : s.latest.kept.copy();
        for (int x = 0; x < s.sources.size(); x++) {
            s.sources.get(x).position = s.latest == null ? 0 : s.latest.positions.get(x);
        }
        for (int key = 0; key < 16; key++) {
            s.sums[key] = s.latest == null ? 0 : s.latest.sums.get(key);
        }
    }

    static void rescale(State s, int instances) {
        if (s.latest != null) {
            Channels spread = new Channels();
            for (int old = 0; old < s.instances; old++) {
                for (int x = 0; x < s.sources.size(); x++) {
                    for (Thing t : s.latest.kept.of("i" + old, x)) {
                        spread.of("i" + owner(t.key, instances), x).add(t);
                    }
                }
                for (int k = 0; k < s.sinks; k++) {
                    for (Thing t : s.latest.kept.of("k" + k, old)) {
                        spread.of("k" + k, owner(t.key, instances)).add(t);
                    }
                }
            }
            s.latest.kept = spread;
        }
        s.instances = instances;
        fail(s);
    }

    // ---- the face, by names

    private void range(boolean inside) {
        if (!inside) {
            throw new IllegalArgumentException();
        }
    }

    private void there(boolean inside) {
        if (!inside) {
            throw new IndexOutOfBoundsException();
        }
    }

    private void thereSource(int source) {
        there(source >= 0 && source < now.sources.size());
    }

    private void thereInstance(int instance) {
        there(instance >= 0 && instance < now.instances);
    }

    private void thereSink(int sink) {
        there(sink >= 0 && sink < now.sinks);
    }

    private void remember() {
        past.add(now.copy());
        if (past.size() > 6) {
            past.remove(0);
        }
    }

    int feed(byte[] bytes) {
        if (buffer.length() + 20 > 300) {
            return NONE;
        }
        StringBuilder text = new StringBuilder(buffer);
        for (byte b : bytes) {
            text.append((char) (b & 255));
        }
        buffer = text.toString();
        return buffer.length();
    }

    boolean truncate(int length) {
        if (length < 0 || length > buffer.length()) {
            return false;
        }
        buffer = buffer.substring(0, length);
        return true;
    }

    int find() {
        String name = buffer;
        buffer = "";
        for (int x = 0; x < now.sources.size(); x++) {
            if (now.sources.get(x).name.equals(name)) {
                return x;
            }
        }
        return NONE;
    }

    int count(int what) {
        int[] all = {now.sources.size(), now.instances, now.sinks, now.room, now.every, now.time, now.begun,
            now.finished, now.failures, now.sent, past.size(), now.overtake ? 1 : 0};
        return what < 0 || what >= all.length ? NONE : all[what];
    }

    int source(int source, int what) {
        thereSource(source);
        there(what >= 0 && what <= 3);
        Source s = now.sources.get(source);
        return new int[] {s.records, s.seed, s.lag, s.position}[what];
    }

    int record(int source, int index, int what) {
        thereSource(source);
        there(index >= 0 && index < now.sources.get(source).records && (what == 0 || what == 1));
        return what == 0 ? key(now, source, index) : value(now, source, index);
    }

    int owner(int key) {
        range(key >= 0 && key < 16);
        return owner(key, now.instances);
    }

    int sum(int key) {
        range(key >= 0 && key < 16);
        return now.sums[key];
    }

    private int mask(String receiver) {
        int mask = 0;
        for (int from : now.blocked.getOrDefault(receiver, List.of())) {
            mask += 1 << from;
        }
        return mask;
    }

    int instance(int instance, int what) {
        thereInstance(instance);
        there(what >= 0 && what <= 4);
        int many = 0;
        switch (what) {
            case 0:
                for (int group = 0; group < 8; group++) {
                    many += owner(group, now.instances) == instance ? 1 : 0;
                }
                return many;
            case 1:
                return now.handled[instance];
            case 2:
                return mask("i" + instance);
            case 3:
                for (int x = 0; x < 4; x++) {
                    many += count(now.channels.of("i" + instance, x), false);
                }
                return many;
            default:
                for (int k = 0; k < 2; k++) {
                    many += count(now.channels.of("k" + k, instance), false);
                }
                return many;
        }
    }

    int sink(int sink, int what) {
        thereSink(sink);
        there(what >= 0 && what <= 3);
        return new int[] {now.open.get(sink).size(), now.closed.get(sink).size(), now.shown.get(sink).size(),
            mask("k" + sink)}[what];
    }

    int shown(int sink, int index, int what) {
        thereSink(sink);
        there(what == 0 || what == 1);
        List<Thing> list = now.shown.get(sink);
        if (index < 0 || index >= list.size()) {
            throw new NoSuchElementException();
        }
        return what == 0 ? list.get(index).key : list.get(index).number;
    }

    int inChannel(int source, int instance, boolean barriers) {
        thereSource(source);
        thereInstance(instance);
        return count(now.channels.of("i" + instance, source), barriers);
    }

    int outChannel(int instance, int sink, boolean barriers) {
        thereInstance(instance);
        thereSink(sink);
        return count(now.channels.of("k" + sink, instance), barriers);
    }

    int progress(int what) {
        range(what >= 0 && what <= 6);
        Checkpoint c = now.pending;
        return c == null ? NONE : new int[] {c.number, c.began, c.overtaking ? 1 : 0, c.positions.size(),
            c.arrivals("i"), c.arrivals("k"), c.kept.records()}[what];
    }

    int completed(int what) {
        range(what >= 0 && what <= 5);
        Checkpoint c = now.latest;
        return c == null ? NONE : new int[] {c.number, c.began, c.ended, c.overtaking ? 1 : 0,
            c.kept.records(), c.shown ? 1 : 0}[what];
    }

    int notedPosition(int source) {
        thereSource(source);
        return now.latest == null ? 0 : now.latest.positions.get(source);
    }

    int notedSum(int key) {
        range(key >= 0 && key < 16);
        return now.latest == null ? 0 : now.latest.sums.get(key);
    }

    int shownOf(int key) {
        range(key >= 0 && key < 16);
        int many = 0;
        for (List<Thing> list : now.shown) {
            for (Thing t : list) {
                many += t.key == key ? 1 : 0;
            }
        }
        return many;
    }

    int expected(int key, int many) {
        range(key >= 0 && key < 16 && many >= 1);
        int source = key % 4;
        int left = many;
        int sum = 0;
        for (int i = 0; source < now.sources.size() && i < now.sources.get(source).records; i++) {
            if (key(now, source, i) == key) {
                sum += value(now, source, i);
                left--;
                if (left == 0) {
                    return sum;
                }
            }
        }
        return NONE;
    }

    int atRisk() {
        int many = 0;
        for (int x = 0; x < now.sources.size(); x++) {
            many += now.sources.get(x).position - notedPosition(x);
        }
        return many;
    }

    float repeated() {
        int positions = 0;
        for (Source s : now.sources) {
            positions += s.position;
        }
        return now.sent == 0 ? 0 : (float) (now.sent - positions) / (float) now.sent;
    }

    static int handled(State s) {
        int many = 0;
        for (int h : s.handled) {
            many += h;
        }
        return many;
    }

    double skew() {
        int most = 0;
        for (int h : now.handled) {
            most = Math.max(most, h);
        }
        return most == 0 ? 0 : (double) most / ((double) handled(now) / (double) now.instances);
    }

    int fullest() {
        int best = NONE;
        int most = 0;
        for (int x = 0; x < now.sources.size(); x++) {
            for (int i = 0; i < now.instances; i++) {
                int many = count(now.channels.of("i" + i, x), false);
                if (many > most) {
                    most = many;
                    best = 10 * x + i;
                }
            }
        }
        return best;
    }

    int run(int ticks) {
        range(ticks >= 1 && ticks <= 500);
        remember();
        int before = now.finished;
        for (int t = 0; t < ticks; t++) {
            tick(now);
        }
        return now.finished - before;
    }

    int begin(boolean overtaking) {
        if (now.pending != null) {
            throw new IllegalStateException();
        }
        remember();
        begin(now, overtaking);
        return now.begun;
    }

    int fail() {
        remember();
        int many = atRisk();
        fail(now);
        return many;
    }

    int rescale(int instances) {
        range(instances >= 1 && instances <= 4);
        remember();
        int many = 0;
        for (int group = 0; group < 8; group++) {
            many += owner(group, now.instances) == owner(group, instances) ? 0 : 1;
        }
        rescale(now, instances);
        return many;
    }

    int setRoom(int room) {
        range(room >= 1 && room <= 9);
        remember();
        int before = now.room;
        now.room = room;
        return before;
    }

    int setLag(int source, int lag) {
        thereSource(source);
        range(lag >= 0 && lag <= 9);
        remember();
        int before = now.sources.get(source).lag;
        now.sources.get(source).lag = lag;
        return before;
    }

    int setEvery(int every, boolean overtaking) {
        range(every >= 0 && every <= 99);
        remember();
        int before = now.every;
        now.every = every;
        now.overtake = overtaking;
        return before;
    }

    int undo() {
        if (past.isEmpty()) {
            throw new IllegalStateException();
        }
        now = past.remove(past.size() - 1);
        return past.size();
    }

    private static int ticksTo(State s, int ticks) {
        int before = s.finished;
        for (int t = 1; t <= ticks; t++) {
            tick(s);
            if (s.finished != before) {
                return t;
            }
        }
        return NONE;
    }

    int completesIn(int ticks) {
        range(ticks >= 1 && ticks <= 500);
        return now.pending == null ? NONE : ticksTo(now.copy(), ticks);
    }

    int wouldTake(boolean overtaking) {
        if (now.pending != null) {
            return NONE;
        }
        State s = now.copy();
        begin(s, overtaking);
        return ticksTo(s, 500);
    }

    int wouldKeep() {
        if (now.pending != null) {
            return NONE;
        }
        State s = now.copy();
        begin(s, true);
        return ticksTo(s, 500) == NONE ? NONE : s.latest.kept.records();
    }

    private static boolean quiet(State s) {
        for (Source source : s.sources) {
            if (source.position < source.records) {
                return false;
            }
        }
        return s.channels.records() == 0 && s.open.get(0).isEmpty() && s.open.get(1).isEmpty()
                && s.closed.get(0).isEmpty() && s.closed.get(1).isEmpty();
    }

    int quietIn() {
        State s = now.copy();
        for (int t = 0; t <= 1000; t++) {
            if (quiet(s)) {
                return t;
            }
            tick(s);
        }
        return NONE;
    }

    int bestInstances(int ticks) {
        range(ticks >= 1 && ticks <= 500);
        int best = 0;
        int most = -1;
        for (int n = 1; n <= 4; n++) {
            State s = now.copy();
            rescale(s, n);
            for (int t = 0; t < ticks; t++) {
                tick(s);
            }
            if (handled(s) > most) {
                most = handled(s);
                best = n;
            }
        }
        return best;
    }

    int printSink(int sink) {
        thereSink(sink);
        StringBuilder text = new StringBuilder();
        for (Thing t : now.shown.get(sink)) {
            text.append('k').append(t.key).append('=').append(t.number).append('\n');
        }
        output = text.toString();
        return output.length();
    }

    int outputByte(int index) {
        return index < 0 || index >= output.length() ? NONE : output.charAt(index);
    }

    int saveState() {
        saved = now.copy();
        return now.time;
    }

    int restoreState() {
        if (saved == null) {
            throw new IllegalStateException();
        }
        now = saved.copy();
        past.clear();
        return now.time;
    }
}
