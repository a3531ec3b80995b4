import java.util.NoSuchElementException;

/**
 * A flow of operators with checkpoints by barriers, failures and recovery.
 *
 * All rows are made in the constructors and used again: no later call makes an object.
 */
public final class BarrierFlow {
    public static final int NONE = -1;

    private static final int MOST_INPUT = 300;
    private static final int MOST_SOURCES = 4;
    private static final int MOST_INSTANCES = 4;
    private static final int MOST_SINKS = 2;
    private static final int MOST_RECORDS = 200;
    private static final int ALL_RECORDS = MOST_SOURCES * MOST_RECORDS;
    private static final int MOST_LETTERS = 8;
    private static final int MOST_DIGITS = 3;
    private static final int MOST_LAG = 9;
    private static final int MOST_ROOM = 9;
    private static final int MOST_EVERY = 99;
    private static final int MOST_TICKS = 500;
    private static final int MOST_QUIET_TICKS = 1000;
    private static final int MOST_UNDONE = 6;
    private static final int KEYS = 16;
    private static final int GROUPS = 8;
    private static final int SETTINGS = 5;

    // "k", two digits of a key, "=", five digits of a sum (200 values of 50), a line feed
    private static final int MOST_LINE = 10;
    private static final int MOST_OUTPUT = ALL_RECORDS * MOST_LINE;

    // Receivers are the instances 0 to 3, then the sinks; each has a channel from each of 4 senders.
    private static final int FIRST_SINK = MOST_INSTANCES;
    private static final int RECEIVERS = MOST_INSTANCES + MOST_SINKS;
    private static final int SENDERS = 4;
    private static final int CHANNELS = RECEIVERS * SENDERS;

    // The lists of records in a flow: its channels, then what its sinks hold.
    private static final int OPEN = CHANNELS;
    private static final int CLOSED = OPEN + MOST_SINKS;
    private static final int SHOWN = CLOSED + MOST_SINKS;
    private static final int LISTS = SHOWN + MOST_SINKS;

    private static final int UNFIT = 1;
    private static final int OUT_OF_RANGE = 2;
    private static final int REPEATED = 3;
    private static final int TOO_MANY_SOURCES = 4;
    private static final int NO_SOURCE = 5;

    private static final Word[] WORDS = Word.values();

    private final Input input = new Input();
    private final Parser parser = new Parser(input);
    private final Output output = new Output();
    private final Past past;
    private final Flow now;
    private final Flow trial;
    private final Flow saved;
    private boolean isSaved;
    private Setup setup = new Setup();
    private Setup draft = new Setup();

    public BarrierFlow() {
        setup.makePlain();
        now = new Flow(setup);
        trial = new Flow(setup);
        saved = new Flow(setup);
        past = new Past(setup);
    }

    public int feed(int a, int b, int c, int d, int e) {
        if (input.length + 20 > MOST_INPUT) {
            return NONE;
        }
        input.addFourBytes(a);
        input.addFourBytes(b);
        input.addFourBytes(c);
        input.addFourBytes(d);
        input.addFourBytes(e);
        return input.length;
    }

    public boolean truncate(int length) {
        if (length < 0 || length > input.length) {
            return false;
        }
        input.length = length;
        return true;
    }

    public int parse() {
        boolean isGood = parser.read(draft);
        input.length = 0;
        if (!isGood) {
            return NONE;
        }
        Setup old = setup;
        setup = draft;
        draft = old;
        now.start(setup);
        past.forget();
        isSaved = false;
        return setup.sources;
    }

    public int errorCode() {
        return parser.error;
    }

    public int errorOffset() {
        return parser.errorAt;
    }

    public int count(int what) {
        switch (what) {
            case 0: return setup.sources;
            case 1: return now.instances;
            case 2: return setup.sinks;
            case 3: return now.room;
            case 4: return now.every;
            case 5: return now.time;
            case 6: return now.begun;
            case 7: return now.finished;
            case 8: return now.failures;
            case 9: return now.sent;
            case 10: return past.size;
            case 11: return now.overtakes ? 1 : 0;
            default: return NONE;
        }
    }

    public int find() {
        int found = setup.named(input.bytes, 0, input.length);
        input.length = 0;
        return found;
    }

    public int source(int source, int what) throws IndexOutOfBoundsException {
        needSource(source);
        switch (what) {
            case 0: return setup.records[source];
            case 1: return setup.seeds[source];
            case 2: return now.lags[source];
            case 3: return now.positions[source];
            default: throw new IndexOutOfBoundsException();
        }
    }

    public int record(int source, int index, int what) throws IndexOutOfBoundsException {
        needSource(source);
        if (index < 0 || index >= setup.records[source] || what < 0 || what > 1) {
            throw new IndexOutOfBoundsException();
        }
        int record = numberOf(source, index);
        return what == 0 ? setup.keyOf(record) : setup.valueOf(record);
    }

    public int owner(int key) throws IllegalArgumentException {
        needKey(key);
        return ownerOf(key, now.instances);
    }

    public int sum(int key) throws IllegalArgumentException {
        needKey(key);
        return now.sums[key];
    }

    public int instance(int instance, int what) throws IndexOutOfBoundsException {
        needInstance(instance);
        switch (what) {
            case 0: return groupsOf(instance, now.instances);
            case 1: return now.handled[instance];
            case 2: return now.blocked[instance];
            case 3: return now.recordsTo(instance);
            case 4: return now.resultsFrom(instance);
            default: throw new IndexOutOfBoundsException();
        }
    }

    public int sink(int sink, int what) throws IndexOutOfBoundsException {
        needSink(sink);
        switch (what) {
            case 0: return now.lists.sizeOf(OPEN + sink);
            case 1: return now.lists.sizeOf(CLOSED + sink);
            case 2: return now.lists.sizeOf(SHOWN + sink);
            case 3: return now.blocked[FIRST_SINK + sink];
            default: throw new IndexOutOfBoundsException();
        }
    }

    public int shown(int sink, int index, int what) throws IndexOutOfBoundsException, NoSuchElementException {
        needSink(sink);
        if (what < 0 || what > 1) {
            throw new IndexOutOfBoundsException();
        }
        int record = now.lists.at(SHOWN + sink, index);
        if (record == NONE) {
            throw new NoSuchElementException();
        }
        return what == 0 ? setup.keyOf(record) : setup.resultOf(record);
    }

    public int inChannel(int source, int instance, boolean barriers) throws IndexOutOfBoundsException {
        needSource(source);
        needInstance(instance);
        return now.thingsIn(channel(instance, source), barriers);
    }

    public int outChannel(int instance, int sink, boolean barriers) throws IndexOutOfBoundsException {
        needInstance(instance);
        needSink(sink);
        return now.thingsIn(channel(FIRST_SINK + sink, instance), barriers);
    }

    public int progress(int what) throws IllegalArgumentException {
        if (what < 0 || what > 6) {
            throw new IllegalArgumentException();
        }
        Checkpoint pending = now.pending;
        if (!pending.exists()) {
            return NONE;
        }
        switch (what) {
            case 0: return pending.number;
            case 1: return pending.beganAt;
            case 2: return pending.overtakes ? 1 : 0;
            case 3: return Integer.bitCount(pending.put);
            case 4: return pending.arrivedFrom(0, FIRST_SINK);
            case 5: return pending.arrivedFrom(FIRST_SINK, RECEIVERS);
            default: return pending.keptInAll;
        }
    }

    public int completed(int what) throws IllegalArgumentException {
        if (what < 0 || what > 5) {
            throw new IllegalArgumentException();
        }
        Checkpoint latest = now.latest;
        if (!latest.exists()) {
            return NONE;
        }
        switch (what) {
            case 0: return latest.number;
            case 1: return latest.beganAt;
            case 2: return latest.completedAt;
            case 3: return latest.overtakes ? 1 : 0;
            case 4: return latest.keptInAll;
            default: return latest.isShown ? 1 : 0;
        }
    }

    public int notedPosition(int source) throws IndexOutOfBoundsException {
        needSource(source);
        return now.latest.exists() ? now.latest.positions[source] : 0;
    }

    public int notedSum(int key) throws IllegalArgumentException {
        needKey(key);
        return now.latest.exists() ? now.latest.sums[key] : 0;
    }

    public int shownOf(int key) throws IllegalArgumentException {
        needKey(key);
        int list = SHOWN + setup.sinkOf(key);
        int many = 0;
        int record = now.lists.firstOf(list);
        for (int n = now.lists.sizeOf(list); n > 0; n--) {
            if (setup.keyOf(record) == key) {
                many++;
            }
            record = now.lists.behind(record);
        }
        return many;
    }

    public int expected(int key, int many) throws IllegalArgumentException {
        needKey(key);
        if (many < 1) {
            throw new IllegalArgumentException();
        }
        return setup.resultBehind(key, many);
    }

    public int atRisk() {
        return now.recordsAtRisk();
    }

    public float repeated() {
        if (now.sent == 0) {
            return 0;
        }
        return (float) (now.sent - now.positionsInAll()) / (float) now.sent;
    }

    public double skew() {
        int most = 0;
        for (int i = 0; i < now.instances; i++) {
            most = Math.max(most, now.handled[i]);
        }
        if (most == 0) {
            return 0;
        }
        double mean = (double) now.handledInAll() / (double) now.instances;
        return (double) most / mean;
    }

    public int fullest() {
        int best = NONE;
        int most = 0;
        for (int s = 0; s < setup.sources; s++) {
            for (int i = 0; i < now.instances; i++) {
                int many = now.lists.sizeOf(channel(i, s));
                if (many > most) {
                    most = many;
                    best = 10 * s + i;
                }
            }
        }
        return best;
    }

    public int run(int ticks) throws IllegalArgumentException {
        needTicks(ticks);
        past.remember(now);
        int before = now.finished;
        for (int t = 0; t < ticks; t++) {
            now.tick();
        }
        return now.finished - before;
    }

    public int begin(boolean overtaking) throws IllegalStateException {
        if (now.pending.exists()) {
            throw new IllegalStateException();
        }
        past.remember(now);
        now.startCheckpoint(overtaking);
        return now.pending.number;
    }

    public int fail() {
        past.remember(now);
        int lost = now.recordsAtRisk();
        now.recover();
        return lost;
    }

    public int rescale(int instances) throws IllegalArgumentException {
        if (instances < 1 || instances > MOST_INSTANCES) {
            throw new IllegalArgumentException();
        }
        past.remember(now);
        int moved = groupsMoved(now.instances, instances);
        now.recoverWith(instances);
        return moved;
    }

    public int setRoom(int room) throws IllegalArgumentException {
        if (room < 1 || room > MOST_ROOM) {
            throw new IllegalArgumentException();
        }
        past.remember(now);
        int before = now.room;
        now.room = room;
        return before;
    }

    public int setLag(int source, int lag) throws IndexOutOfBoundsException, IllegalArgumentException {
        needSource(source);
        if (lag < 0 || lag > MOST_LAG) {
            throw new IllegalArgumentException();
        }
        past.remember(now);
        int before = now.lags[source];
        now.lags[source] = lag;
        return before;
    }

    public int setEvery(int every, boolean overtaking) throws IllegalArgumentException {
        if (every < 0 || every > MOST_EVERY) {
            throw new IllegalArgumentException();
        }
        past.remember(now);
        int before = now.every;
        now.every = every;
        now.overtakes = overtaking;
        return before;
    }

    public int undo() throws IllegalStateException {
        if (past.size == 0) {
            throw new IllegalStateException();
        }
        past.giveBack(now);
        return past.size;
    }

    public int completesIn(int ticks) throws IllegalArgumentException {
        needTicks(ticks);
        if (!now.pending.exists()) {
            return NONE;
        }
        trial.copyFrom(now);
        return trial.ticksToCompletion(ticks);
    }

    public int wouldTake(boolean overtaking) {
        if (now.pending.exists()) {
            return NONE;
        }
        trial.copyFrom(now);
        trial.startCheckpoint(overtaking);
        return trial.ticksToCompletion(MOST_TICKS);
    }

    public int wouldKeep() {
        if (now.pending.exists()) {
            return NONE;
        }
        trial.copyFrom(now);
        trial.startCheckpoint(true);
        return trial.ticksToCompletion(MOST_TICKS) == NONE ? NONE : trial.latest.keptInAll;
    }

    public int quietIn() {
        trial.copyFrom(now);
        for (int t = 0; t < MOST_QUIET_TICKS; t++) {
            if (trial.isQuiet()) {
                return t;
            }
            trial.tick();
        }
        return trial.isQuiet() ? MOST_QUIET_TICKS : NONE;
    }

    public int bestInstances(int ticks) throws IllegalArgumentException {
        needTicks(ticks);
        int best = 1;
        int most = NONE;
        for (int instances = 1; instances <= MOST_INSTANCES; instances++) {
            trial.copyFrom(now);
            trial.recoverWith(instances);
            for (int t = 0; t < ticks; t++) {
                trial.tick();
            }
            int many = trial.handledInAll();
            if (many > most) {
                most = many;
                best = instances;
            }
        }
        return best;
    }

    public int printSink(int sink) throws IndexOutOfBoundsException {
        needSink(sink);
        output.length = 0;
        int record = now.lists.firstOf(SHOWN + sink);
        for (int n = now.lists.sizeOf(SHOWN + sink); n > 0; n--) {
            output.add('k');
            output.addNumber(setup.keyOf(record));
            output.add('=');
            output.addNumber(setup.resultOf(record));
            output.add('\n');
            record = now.lists.behind(record);
        }
        return output.length;
    }

    public int outputByte(int index) {
        return index >= 0 && index < output.length ? output.bytes[index] : NONE;
    }

    public int saveState() {
        saved.copyFrom(now);
        isSaved = true;
        return now.time;
    }

    public int restoreState() throws IllegalStateException {
        if (!isSaved) {
            throw new IllegalStateException();
        }
        now.copyFrom(saved);
        past.forget();
        return now.time;
    }

    private void needSource(int source) {
        if (source < 0 || source >= setup.sources) {
            throw new IndexOutOfBoundsException();
        }
    }

    private void needInstance(int instance) {
        if (instance < 0 || instance >= now.instances) {
            throw new IndexOutOfBoundsException();
        }
    }

    private void needSink(int sink) {
        if (sink < 0 || sink >= setup.sinks) {
            throw new IndexOutOfBoundsException();
        }
    }

    private static void needKey(int key) {
        if (key < 0 || key >= KEYS) {
            throw new IllegalArgumentException();
        }
    }

    private static void needTicks(int ticks) {
        if (ticks < 1 || ticks > MOST_TICKS) {
            throw new IllegalArgumentException();
        }
    }

    private static int ownerOf(int key, int instances) {
        return key % GROUPS * instances / GROUPS;
    }

    private static int groupsOf(int instance, int instances) {
        int many = 0;
        for (int group = 0; group < GROUPS; group++) {
            if (ownerOf(group, instances) == instance) {
                many++;
            }
        }
        return many;
    }

    private static int groupsMoved(int before, int after) {
        int many = 0;
        for (int group = 0; group < GROUPS; group++) {
            if (ownerOf(group, before) != ownerOf(group, after)) {
                many++;
            }
        }
        return many;
    }

    private static int channel(int receiver, int sender) {
        return SENDERS * receiver + sender;
    }

    private static int numberOf(int source, int index) {
        return MOST_RECORDS * source + index;
    }

    private static void copyRow(int[] from, int[] to) {
        System.arraycopy(from, 0, to, 0, Math.min(from.length, to.length));
    }

    private static void fillRow(int[] row, int value) {
        for (int i = 0; i < row.length; i++) {
            row[i] = value;
        }
    }

    /** The words that the grammar quotes, and the range of the number that follows some of them. */
    private enum Word {
        SOURCE("source", NONE, 0, 0, 0),
        RECORDS("records", NONE, 0, 0, MOST_RECORDS),
        SEED("seed", NONE, 0, 0, 999),
        LAG("lag", NONE, 0, 0, MOST_LAG),
        INSTANCES("instances", 0, 1, 1, MOST_INSTANCES),
        SINKS("sinks", 1, 1, 1, MOST_SINKS),
        ROOM("room", 2, 4, 1, MOST_ROOM),
        EVERY("every", 3, 0, 0, MOST_EVERY),
        OVERTAKE("overtake", 4, 0, 1, 1);

        final String text;
        final int setting;
        final int otherwise;
        final int least;
        final int most;

        Word(String text, int setting, int otherwise, int least, int most) {
            this.text = text;
            this.setting = setting;
            this.otherwise = otherwise;
            this.least = least;
            this.most = most;
        }
    }

    private static final class Input {
        final byte[] bytes = new byte[MOST_INPUT];
        int length;

        void addFourBytes(int word) {
            addByte(word >>> 24);
            addByte(word >>> 16);
            addByte(word >>> 8);
            addByte(word);
        }

        private void addByte(int value) {
            if (length >= 0 && length < bytes.length) {
                bytes[length] = (byte) value;
                length++;
            }
        }

        int byteAt(int index) {
            return index >= 0 && index < length && index < bytes.length ? bytes[index] : 0;
        }
    }

    private static final class Output {
        final byte[] bytes = new byte[MOST_OUTPUT];
        int length;

        void add(int value) {
            if (length >= 0 && length < bytes.length) {
                bytes[length] = (byte) value;
                length++;
            }
        }

        void addNumber(int number) {
            int unit = 1;
            for (int digits = 1; digits < 9 && number / 10 >= unit; digits++) {
                unit *= 10;
            }
            for (; unit > 0; unit /= 10) {
                add('0' + number / unit % 10);
            }
        }
    }

    /** What a text says; records have one row of numbers, 200 for each source. */
    private static final class Setup {
        int sources;
        int sinks;
        final int[] records = new int[MOST_SOURCES];
        final int[] seeds = new int[MOST_SOURCES];
        final int[] lags = new int[MOST_SOURCES];
        final int[] nameLengths = new int[MOST_SOURCES];
        final byte[] letters = new byte[MOST_SOURCES * MOST_LETTERS];
        final int[] settings = new int[SETTINGS];
        private final int[] keys = new int[ALL_RECORDS];
        private final int[] values = new int[ALL_RECORDS];
        private final int[] results = new int[ALL_RECORDS];

        void clear() {
            sources = 0;
            fillRow(records, 0);
            fillRow(seeds, 0);
            fillRow(lags, 0);
            fillRow(settings, NONE);
        }

        void makePlain() {
            clear();
            sources = 1;
            letters[0] = 'a';
            nameLengths[0] = 1;
            finish();
        }

        void finish() {
            sinks = chosen(Word.SINKS);
            for (int s = 0; s < sources; s++) {
                makeRecords(s);
                makeResults(s);
            }
        }

        private void makeRecords(int source) {
            int seed = seeds[source];
            for (int i = 0; i < records[source] && i < MOST_RECORDS; i++) {
                int record = numberOf(source, i);
                keys[record] = 4 * ((seed + i * i + i / 2) % 4) + source;
                values[record] = (seed + 7 * i) % 50 + 1;
            }
        }

        // All records of a key take one way, in their order, and none is counted twice in a sum:
        // so the sum behind a record is the same in every run and need not be held by each result.
        private void makeResults(int source) {
            for (int key = source; key < KEYS; key += MOST_SOURCES) {
                int sum = 0;
                for (int i = 0; i < records[source] && i < MOST_RECORDS; i++) {
                    int record = numberOf(source, i);
                    if (keys[record] == key) {
                        sum += values[record];
                        results[record] = sum;
                    }
                }
            }
        }

        int chosen(Word word) {
            int setting = word.setting;
            if (setting < 0 || setting >= settings.length || settings[setting] == NONE) {
                return word.otherwise;
            }
            return settings[setting];
        }

        void setName(int source, byte[] text, int from, int length) {
            if (source < 0 || source >= MOST_SOURCES || length < 0 || length > MOST_LETTERS
                    || from < 0 || from + length > text.length) {
                return;
            }
            System.arraycopy(text, from, letters, MOST_LETTERS * source, length);
            nameLengths[source] = length;
        }

        int named(byte[] text, int from, int length) {
            for (int s = 0; s < sources; s++) {
                if (isName(s, text, from, length)) {
                    return s;
                }
            }
            return NONE;
        }

        private boolean isName(int source, byte[] text, int from, int length) {
            if (length != nameLengths[source] || length > MOST_LETTERS || from < 0 || from + length > text.length) {
                return false;
            }
            for (int i = 0; i < length; i++) {
                if (letters[MOST_LETTERS * source + i] != text[from + i]) {
                    return false;
                }
            }
            return true;
        }

        int keyOf(int record) {
            return record >= 0 && record < ALL_RECORDS ? keys[record] : 0;
        }

        int valueOf(int record) {
            return record >= 0 && record < ALL_RECORDS ? values[record] : 0;
        }

        int resultOf(int record) {
            return record >= 0 && record < ALL_RECORDS ? results[record] : 0;
        }

        int resultBehind(int key, int many) {
            int source = key % MOST_SOURCES;
            int left = many;
            for (int i = 0; source < sources && i < records[source]; i++) {
                int record = numberOf(source, i);
                if (keyOf(record) == key) {
                    left--;
                    if (left == 0) {
                        return resultOf(record);
                    }
                }
            }
            return NONE;
        }

        int sinkOf(int key) {
            return sinks < 1 ? 0 : key / 4 % sinks;
        }
    }

    /** Reads a text token by token into a setup; the first thing at fault ends it. */
    private static final class Parser {
        private static final int END = 0;
        private static final int LETTERS = 1;
        private static final int DIGITS = 2;
        private static final int SEMICOLON = 3;
        private static final int STRANGE = 4;

        int error;
        int errorAt = NONE;
        private final Input text;
        private Setup setup;
        private int kind;
        private int from;
        private int to;
        private int number;

        Parser(Input text) {
            this.text = text;
        }

        boolean read(Setup into) {
            setup = into;
            setup.clear();
            error = 0;
            errorAt = NONE;
            to = 0;
            advance();
            for (int n = 0; n < MOST_INPUT && kind != END; n++) {
                if (!readStatement()) {
                    return false;
                }
            }
            if (setup.sources == 0) {
                return refuse(NO_SOURCE);
            }
            setup.finish();
            return true;
        }

        private boolean readStatement() {
            Word word = quotedWord();
            if (word == Word.SOURCE) {
                return readSource() && readSemicolon();
            }
            if (word == null || word.setting == NONE) {
                return refuse(UNFIT);
            }
            return readSetting(word) && readSemicolon();
        }

        private boolean readSource() {
            int source = setup.sources;
            if (source >= MOST_SOURCES) {
                return refuse(TOO_MANY_SOURCES);
            }
            advance();
            if (!readName(source) || !readWord(Word.RECORDS) || !readNumber(Word.RECORDS)) {
                return false;
            }
            setup.records[source] = number;
            if (!readWord(Word.SEED) || !readNumber(Word.SEED)) {
                return false;
            }
            setup.seeds[source] = number;
            if (quotedWord() == Word.LAG) {
                advance();
                if (!readNumber(Word.LAG)) {
                    return false;
                }
                setup.lags[source] = number;
            }
            setup.sources++;
            return true;
        }

        private boolean readSetting(Word word) {
            int setting = word.setting;
            if (setting < 0 || setting >= SETTINGS || setup.settings[setting] != NONE) {
                return refuse(REPEATED);
            }
            advance();
            if (word == Word.OVERTAKE) {
                setup.settings[setting] = 1;
                return true;
            }
            if (!readNumber(word)) {
                return false;
            }
            setup.settings[setting] = number;
            return true;
        }

        private boolean readName(int source) {
            if (kind != LETTERS || to - from > MOST_LETTERS || quotedWord() != null) {
                return refuse(UNFIT);
            }
            if (setup.named(text.bytes, from, to - from) != NONE) {
                return refuse(REPEATED);
            }
            setup.setName(source, text.bytes, from, to - from);
            advance();
            return true;
        }

        private boolean readWord(Word word) {
            if (quotedWord() != word) {
                return refuse(UNFIT);
            }
            advance();
            return true;
        }

        private boolean readNumber(Word word) {
            if (kind != DIGITS || to - from > MOST_DIGITS) {
                return refuse(UNFIT);
            }
            number = 0;
            for (int i = from; i < to; i++) {
                number = 10 * number + text.byteAt(i) - '0';
            }
            if (number < word.least || number > word.most) {
                return refuse(OUT_OF_RANGE);
            }
            advance();
            return true;
        }

        private boolean readSemicolon() {
            if (kind != SEMICOLON) {
                return refuse(UNFIT);
            }
            advance();
            return true;
        }

        private boolean refuse(int code) {
            error = code;
            errorAt = from;
            return false;
        }

        private Word quotedWord() {
            if (kind != LETTERS) {
                return null;
            }
            for (Word word : WORDS) {
                if (isToken(word.text)) {
                    return word;
                }
            }
            return null;
        }

        private boolean isToken(String word) {
            if (word.length() != to - from) {
                return false;
            }
            for (int i = 0; i < word.length(); i++) {
                if (word.charAt(i) != text.byteAt(from + i)) {
                    return false;
                }
            }
            return true;
        }

        private void advance() {
            from = to;
            while (from < text.length && (text.byteAt(from) == ' ' || text.byteAt(from) == '\n')) {
                from++;
            }
            kind = kindAt(from);
            to = from;
            if (kind == END) {
                return;
            }
            to++;
            while ((kind == LETTERS || kind == DIGITS) && to < text.length && kindAt(to) == kind) {
                to++;
            }
        }

        private int kindAt(int index) {
            if (index >= text.length) {
                return END;
            }
            int value = text.byteAt(index);
            if (value >= 'a' && value <= 'z') {
                return LETTERS;
            }
            if (value >= '0' && value <= '9') {
                return DIGITS;
            }
            return value == ';' ? SEMICOLON : STRANGE;
        }
    }

    /** Lists of records with one row of links for all: a record is in one of the lists at most. */
    private static final class Lists {
        private final int[] next = new int[ALL_RECORDS];
        private final int[] first = new int[LISTS];
        private final int[] last = new int[LISTS];
        private final int[] size = new int[LISTS];

        Lists() {
            clearAll();
        }

        void clearAll() {
            for (int list = 0; list < LISTS; list++) {
                clear(list);
            }
        }

        void clear(int list) {
            if (list >= 0 && list < LISTS) {
                first[list] = NONE;
                last[list] = NONE;
                size[list] = 0;
            }
        }

        void copyFrom(Lists other) {
            copyRow(other.next, next);
            copyRow(other.first, first);
            copyRow(other.last, last);
            copyRow(other.size, size);
        }

        int sizeOf(int list) {
            return isList(list) ? size[list] : 0;
        }

        int firstOf(int list) {
            return isList(list) ? first[list] : NONE;
        }

        int behind(int record) {
            return isRecord(record) ? next[record] : NONE;
        }

        int at(int list, int index) {
            if (index < 0 || index >= sizeOf(list)) {
                return NONE;
            }
            int record = firstOf(list);
            for (int i = 0; i < index; i++) {
                record = behind(record);
            }
            return record;
        }

        void add(int list, int record) {
            if (!isList(list) || !isRecord(record)) {
                return;
            }
            int tail = last[list];
            if (isRecord(tail)) {
                next[tail] = record;
            } else {
                first[list] = record;
            }
            next[record] = NONE;
            last[list] = record;
            size[list]++;
        }

        int takeFirst(int list) {
            int record = firstOf(list);
            if (!isList(list) || !isRecord(record)) {
                return NONE;
            }
            first[list] = next[record];
            size[list]--;
            if (size[list] == 0) {
                clear(list);
            }
            return record;
        }

        void moveAll(int from, int to) {
            if (!isList(from) || !isList(to) || from == to || size[from] == 0) {
                return;
            }
            int tail = last[to];
            if (isRecord(tail)) {
                next[tail] = first[from];
            } else {
                first[to] = first[from];
            }
            last[to] = last[from];
            size[to] += size[from];
            clear(from);
        }

        private static boolean isList(int list) {
            return list >= 0 && list < LISTS;
        }

        private static boolean isRecord(int record) {
            return record >= 0 && record < ALL_RECORDS;
        }
    }

    /** A checkpoint in progress or a completed one; its number is 0 if there is none. */
    private static final class Checkpoint {
        private static final int SPARE = CHANNELS;

        int number;
        int beganAt;
        int completedAt;
        boolean overtakes;
        boolean isShown;
        int put;
        int keptInAll;
        final int[] arrived = new int[RECEIVERS];
        final int[] positions = new int[MOST_SOURCES];
        final int[] sums = new int[KEYS];
        final Lists kept = new Lists();

        boolean exists() {
            return number > 0;
        }

        boolean isOvertaking() {
            return exists() && overtakes;
        }

        void start(int itsNumber, int time, boolean overtaking) {
            number = itsNumber;
            beganAt = time;
            completedAt = NONE;
            overtakes = overtaking;
            isShown = false;
            put = 0;
            keptInAll = 0;
            fillRow(arrived, 0);
            fillRow(positions, 0);
            fillRow(sums, 0);
            kept.clearAll();
        }

        void copyFrom(Checkpoint other) {
            number = other.number;
            if (number == 0) {
                return;
            }
            beganAt = other.beganAt;
            completedAt = other.completedAt;
            overtakes = other.overtakes;
            isShown = other.isShown;
            put = other.put;
            keptInAll = other.keptInAll;
            copyRow(other.arrived, arrived);
            copyRow(other.positions, positions);
            copyRow(other.sums, sums);
            kept.copyFrom(other.kept);
        }

        int arrivedFrom(int first, int end) {
            int many = 0;
            for (int r = first; r < end && r < RECEIVERS; r++) {
                many += Integer.bitCount(arrived[r]);
            }
            return many;
        }

        boolean hasPut(int source) {
            return (put >> source & 1) == 1;
        }

        /** Whether its first barrier has arrived at the receiver, but none from this sender. */
        boolean isOnlyBehind(int receiver, int sender) {
            return arrived[receiver] != 0 && (arrived[receiver] >> sender & 1) == 0;
        }

        void keep(int channel, int record) {
            kept.add(channel, record);
            keptInAll++;
        }

        void spread(Setup setup, int before, int after) {
            for (int s = 0; s < setup.sources; s++) {
                for (int i = 0; i < before; i++) {
                    kept.moveAll(channel(i, s), SPARE);
                }
                for (int n = kept.sizeOf(SPARE); n > 0; n--) {
                    int record = kept.takeFirst(SPARE);
                    kept.add(channel(ownerOf(setup.keyOf(record), after), s), record);
                }
            }
            for (int k = 0; k < setup.sinks; k++) {
                for (int i = 0; i < before; i++) {
                    kept.moveAll(channel(FIRST_SINK + k, i), SPARE);
                }
                for (int n = kept.sizeOf(SPARE); n > 0; n--) {
                    int record = kept.takeFirst(SPARE);
                    kept.add(channel(FIRST_SINK + k, ownerOf(setup.keyOf(record), after)), record);
                }
            }
        }
    }

    /** All that ticks and changes touch; a copy of it is what undo, forecasts and saving need. */
    private static final class Flow {
        int instances;
        int room;
        int every;
        boolean overtakes;
        int time;
        int begun;
        int finished;
        int failures;
        int sent;
        final int[] lags = new int[MOST_SOURCES];
        final int[] positions = new int[MOST_SOURCES];
        final int[] sums = new int[KEYS];
        final int[] handled = new int[MOST_INSTANCES];
        final int[] blocked = new int[RECEIVERS];
        final Lists lists = new Lists();
        Checkpoint pending = new Checkpoint();
        Checkpoint latest = new Checkpoint();
        private Setup setup;
        // the sender with whom a receiver begins to look
        private final int[] turns = new int[RECEIVERS];
        // how many records stand before the barrier of a channel, NONE if it holds no barrier
        private final int[] barriers = new int[CHANNELS];

        Flow(Setup setup) {
            start(setup);
        }

        void start(Setup itsSetup) {
            setup = itsSetup;
            instances = setup.chosen(Word.INSTANCES);
            room = setup.chosen(Word.ROOM);
            every = setup.chosen(Word.EVERY);
            overtakes = setup.chosen(Word.OVERTAKE) == 1;
            time = 0;
            begun = 0;
            finished = 0;
            sent = 0;
            copyRow(setup.lags, lags);
            latest.number = 0;
            lists.clearAll();
            recover();
            failures = 0;
        }

        void copyFrom(Flow other) {
            setup = other.setup;
            instances = other.instances;
            room = other.room;
            every = other.every;
            overtakes = other.overtakes;
            time = other.time;
            begun = other.begun;
            finished = other.finished;
            failures = other.failures;
            sent = other.sent;
            copyRow(other.lags, lags);
            copyRow(other.positions, positions);
            copyRow(other.sums, sums);
            copyRow(other.handled, handled);
            copyRow(other.blocked, blocked);
            copyRow(other.turns, turns);
            copyRow(other.barriers, barriers);
            lists.copyFrom(other.lists);
            pending.copyFrom(other.pending);
            latest.copyFrom(other.latest);
        }

        void tick() {
            if (every != 0 && time % every == 0 && !pending.exists()) {
                startCheckpoint(overtakes);
            }
            showLatest();
            for (int s = 0; s < setup.sources; s++) {
                putBarriers(s);
                sendRecord(s);
            }
            letBarriersOvertake(0, instances);
            for (int i = 0; i < instances; i++) {
                take(i, senderInTurn(i));
            }
            letBarriersOvertake(FIRST_SINK, setup.sinks);
            for (int k = 0; k < setup.sinks; k++) {
                take(FIRST_SINK + k, senderInTurn(FIRST_SINK + k));
            }
            completeIfAllArrived();
            time++;
        }

        private int sendersTo(int receiver) {
            return receiver < FIRST_SINK ? setup.sources : instances;
        }

        int ticksToCompletion(int ticks) {
            int before = finished;
            for (int t = 1; t <= ticks; t++) {
                tick();
                if (finished > before) {
                    return t;
                }
            }
            return NONE;
        }

        void startCheckpoint(boolean overtaking) {
            begun++;
            pending.start(begun, time, overtaking);
        }

        private void showLatest() {
            if (!latest.exists() || latest.isShown) {
                return;
            }
            for (int k = 0; k < setup.sinks; k++) {
                lists.moveAll(CLOSED + k, SHOWN + k);
            }
            latest.isShown = true;
        }

        private void putBarriers(int source) {
            if (!pending.exists() || pending.hasPut(source) || time - pending.beganAt < lags[source]) {
                return;
            }
            pending.put |= 1 << source;
            pending.positions[source] = positions[source];
            for (int i = 0; i < instances; i++) {
                int channel = channel(i, source);
                barriers[channel] = lists.sizeOf(channel);
            }
        }

        private void sendRecord(int source) {
            if (positions[source] >= setup.records[source]) {
                return;
            }
            int record = numberOf(source, positions[source]);
            int channel = channel(ownerOf(setup.keyOf(record), instances), source);
            if (lists.sizeOf(channel) < room) {
                lists.add(channel, record);
                positions[source]++;
                sent++;
            }
        }

        private void letBarriersOvertake(int firstReceiver, int receivers) {
            if (!pending.isOvertaking()) {
                return;
            }
            for (int r = firstReceiver; r < firstReceiver + receivers; r++) {
                for (int sender = 0; sender < sendersTo(r); sender++) {
                    if (barriers[channel(r, sender)] != NONE) {
                        letBarrierArrive(r, sender);
                    }
                }
            }
        }

        private int senderInTurn(int receiver) {
            int senders = sendersTo(receiver);
            int sender = turns[receiver];
            for (int n = 0; n < senders; n++) {
                if (sender >= senders) {
                    sender = 0;
                }
                if (canBeTaken(receiver, sender)) {
                    return sender;
                }
                sender++;
            }
            return NONE;
        }

        private boolean canBeTaken(int receiver, int sender) {
            int channel = channel(receiver, sender);
            if ((blocked[receiver] >> sender & 1) == 1) {
                return false;
            }
            if (barriers[channel] == 0) {
                return true;
            }
            if (lists.sizeOf(channel) == 0) {
                return false;
            }
            return receiver >= FIRST_SINK
                    || lists.sizeOf(channelForResult(receiver, lists.firstOf(channel))) < room;
        }

        private int channelForResult(int instance, int record) {
            return channel(FIRST_SINK + setup.sinkOf(setup.keyOf(record)), instance);
        }

        private void take(int receiver, int sender) {
            if (sender == NONE) {
                return;
            }
            turns[receiver] = sender + 1;
            int channel = channel(receiver, sender);
            if (barriers[channel] == 0) {
                letBarrierArrive(receiver, sender);
                return;
            }
            if (barriers[channel] > 0) {
                barriers[channel]--;
            }
            int record = lists.takeFirst(channel);
            if (pending.isOvertaking() && pending.isOnlyBehind(receiver, sender)) {
                pending.keep(channel, record);
            }
            if (receiver < FIRST_SINK) {
                addUp(receiver, record);
            } else {
                lists.add(OPEN + receiver - FIRST_SINK, record);
            }
        }

        private void addUp(int instance, int record) {
            int key = setup.keyOf(record);
            if (key < 0 || key >= KEYS) {
                return;
            }
            sums[key] += setup.valueOf(record);
            handled[instance]++;
            lists.add(channelForResult(instance, record), record);
        }

        private void letBarrierArrive(int receiver, int sender) {
            int channel = channel(receiver, sender);
            int before = barriers[channel];
            boolean isFirst = pending.arrived[receiver] == 0;
            barriers[channel] = NONE;
            pending.arrived[receiver] |= 1 << sender;
            if (pending.overtakes) {
                if (isFirst) {
                    cut(receiver);
                }
                keepFirst(channel, before);
                return;
            }
            blocked[receiver] |= 1 << sender;
            if (Integer.bitCount(pending.arrived[receiver]) == sendersTo(receiver)) {
                cut(receiver);
                blocked[receiver] = 0;
            }
        }

        private void keepFirst(int channel, int many) {
            pending.keptInAll += many;
            int record = lists.firstOf(channel);
            for (int n = 0; n < many; n++) {
                pending.kept.add(channel, record);
                record = lists.behind(record);
            }
        }

        private void cut(int receiver) {
            if (receiver >= FIRST_SINK) {
                int sink = receiver - FIRST_SINK;
                lists.moveAll(OPEN + sink, CLOSED + sink);
                return;
            }
            for (int key = 0; key < KEYS; key++) {
                if (ownerOf(key, instances) == receiver) {
                    pending.sums[key] = sums[key];
                }
            }
            for (int k = 0; k < setup.sinks; k++) {
                int channel = channel(FIRST_SINK + k, receiver);
                barriers[channel] = lists.sizeOf(channel);
            }
        }

        private void completeIfAllArrived() {
            if (!pending.exists()
                    || Integer.bitCount(pending.put) < setup.sources
                    || pending.arrivedFrom(0, FIRST_SINK) < setup.sources * instances
                    || pending.arrivedFrom(FIRST_SINK, RECEIVERS) < instances * setup.sinks) {
                return;
            }
            pending.completedAt = time;
            Checkpoint old = latest;
            latest = pending;
            pending = old;
            pending.number = 0;
            finished++;
        }

        void recover() {
            showLatest();
            for (int list = 0; list < SHOWN; list++) {
                lists.clear(list);
            }
            pending.number = 0;
            fillRow(barriers, NONE);
            fillRow(blocked, 0);
            fillRow(turns, 0);
            fillRow(handled, 0);
            failures++;
            if (latest.exists()) {
                goBackToLatest();
            } else {
                fillRow(positions, 0);
                fillRow(sums, 0);
            }
        }

        private void goBackToLatest() {
            copyRow(latest.positions, positions);
            copyRow(latest.sums, sums);
            for (int channel = 0; channel < CHANNELS; channel++) {
                int record = latest.kept.firstOf(channel);
                for (int n = latest.kept.sizeOf(channel); n > 0; n--) {
                    lists.add(channel, record);
                    record = latest.kept.behind(record);
                }
            }
        }

        void recoverWith(int many) {
            if (latest.exists()) {
                latest.spread(setup, instances, many);
            }
            instances = many;
            recover();
        }

        boolean isQuiet() {
            for (int s = 0; s < setup.sources; s++) {
                if (positions[s] < setup.records[s]) {
                    return false;
                }
            }
            for (int list = 0; list < SHOWN; list++) {
                if (lists.sizeOf(list) > 0) {
                    return false;
                }
            }
            return true;
        }

        int thingsIn(int channel, boolean areBarriers) {
            if (!areBarriers) {
                return lists.sizeOf(channel);
            }
            return channel >= 0 && channel < CHANNELS && barriers[channel] != NONE ? 1 : 0;
        }

        int recordsTo(int instance) {
            int many = 0;
            for (int s = 0; s < setup.sources; s++) {
                many += lists.sizeOf(channel(instance, s));
            }
            return many;
        }

        int resultsFrom(int instance) {
            int many = 0;
            for (int k = 0; k < setup.sinks; k++) {
                many += lists.sizeOf(channel(FIRST_SINK + k, instance));
            }
            return many;
        }

        int handledInAll() {
            int many = 0;
            for (int i = 0; i < instances; i++) {
                many += handled[i];
            }
            return many;
        }

        int positionsInAll() {
            int many = 0;
            for (int s = 0; s < setup.sources; s++) {
                many += positions[s];
            }
            return many;
        }

        int recordsAtRisk() {
            int many = positionsInAll();
            for (int s = 0; latest.exists() && s < setup.sources; s++) {
                many -= latest.positions[s];
            }
            return many;
        }
    }

    /** The flows before the latest changes, in a ring. */
    private static final class Past {
        int size;
        private int newest;
        private final Flow[] flows = new Flow[MOST_UNDONE];

        Past(Setup setup) {
            for (int i = 0; i < MOST_UNDONE; i++) {
                flows[i] = new Flow(setup);
            }
        }

        void forget() {
            size = 0;
        }

        void remember(Flow flow) {
            newest = newest + 1 < MOST_UNDONE ? newest + 1 : 0;
            size = Math.min(size + 1, MOST_UNDONE);
            Flow place = flows[newest];
            if (place != null) {
                place.copyFrom(flow);
            }
        }

        void giveBack(Flow flow) {
            Flow place = flows[newest];
            if (size == 0 || place == null) {
                return;
            }
            flow.copyFrom(place);
            newest = newest > 0 ? newest - 1 : MOST_UNDONE - 1;
            size--;
        }
    }
}
