/** A hub that foresees unplugging. ../shared/DOC.md tells what each public method promises. */
public final class ForesightHub {
    public static final int NONE = -1;

    private static final int MOST_BYTES = 600;
    private static final int APPENDED_BYTES = 20;
    private static final int MOST_PATTERNS = 6;
    private static final int MOST_PATTERN_ERRORS = 5;
    private static final int MOST_DEVICES = 8;
    private static final int MOST_STREAMS = 12;
    private static final int MOST_FRAMES = 200;
    private static final int MOST_SCORE = 999;
    private static final int KINDS = 4;
    private static final int SLOTS = 2;

    private final Reader reader;
    private final Hub hub;
    private final History history;
    private final State[] snapshots;
    private final boolean[] snapshotTaken;

    public ForesightHub() {
        reader = new Reader();
        hub = new Hub();
        history = new History();
        snapshots = new State[SLOTS];
        snapshotTaken = new boolean[SLOTS];
        for (int slot = 0; slot < SLOTS; slot++) {
            snapshots[slot] = new State();
        }
    }

    // ---- hub

    public int append(int a, int b, int c, int d, int e) {
        if (!reader.hasRoomFor(APPENDED_BYTES)) {
            return NONE;
        }
        reader.addBytesOf(a);
        reader.addBytesOf(b);
        reader.addBytesOf(c);
        reader.addBytesOf(d);
        reader.addBytesOf(e);
        return reader.filled;
    }

    public int parse(int length) throws IllegalArgumentException {
        if (length < 0 || length > reader.filled) {
            throw new IllegalArgumentException("no such length of the text");
        }
        boolean understood = reader.read(length);
        reader.filled = 0;
        if (!understood) {
            return reader.faultAnswer();
        }
        hub.begin(reader.exchangePlan(hub.plan));
        history.clear();
        for (int slot = 0; slot < SLOTS; slot++) {
            snapshotTaken[slot] = false;
        }
        return hub.plan.streams;
    }

    public int size(int what) throws IllegalArgumentException {
        switch (what) {
            case 0: return hub.plan.patterns;
            case 1: return hub.plan.devices;
            case 2: return hub.plan.streams;
            case 3: return hub.plan.whole;
            case 4: return hub.plan.ports;
            case 5: return hub.state.time;
            case 6: return hub.reserved();
            case 7: return hub.state.alarmScore;
            case 8: return hub.plan.grace;
            case 9: return history.kept;
            default: throw new IllegalArgumentException("no such number");
        }
    }

    public int deviceAt(int port) throws IndexOutOfBoundsException {
        requirePort(port);
        return hub.pluggedInAt(port);
    }

    public int device(int device, int what) throws IndexOutOfBoundsException, IllegalArgumentException {
        requireDevice(device);
        switch (what) {
            case 0: return hub.state.port[device];
            case 1: return hub.plan.heir[device];
            case 2: return hub.inAlarm(device) ? 1 : 0;
            case 3: return hub.scoreOf(device, NONE);
            case 4: return hub.matchingBits(device, NONE);
            case 5: return hub.state.errors.kept[device];
            case 6: return hub.heldBits(device);
            case 7: return hub.reservedFor(device);
            default: throw new IllegalArgumentException("no such property of a device");
        }
    }

    public int stream(int stream, int what) throws IndexOutOfBoundsException, IllegalArgumentException {
        requireStream(stream);
        switch (what) {
            case 0: return hub.state.mode[stream];
            case 1: return hub.state.holder[stream];
            case 2: return hub.wantedHolder(stream);
            case 3: return hub.plan.rate[stream];
            case 4: return hub.plan.packet[stream];
            case 5: return hub.state.done[stream];
            case 6: return hub.plan.home[stream];
            default: throw new IllegalArgumentException("no such property of a stream");
        }
    }

    public long packets(int stream) throws IndexOutOfBoundsException {
        requireStream(stream);
        return hub.state.sent[stream];
    }

    // ---- errors and foresight

    public int error(int device, int k, int part) throws IndexOutOfBoundsException, IllegalArgumentException {
        requireDevice(device);
        if (part < 0 || part > 1) {
            throw new IllegalArgumentException("no such part of an error");
        }
        return part == 0 ? hub.state.errors.kindOf(device, k) : hub.state.errors.timeOf(device, k);
    }

    public int cause(int k, int part) throws IllegalArgumentException {
        if (part < 0 || part > 2) {
            throw new IllegalArgumentException("no such part of a cause");
        }
        return hub.state.errors.causePart(k, part);
    }

    public int scoreWith(int device, int kind) throws IndexOutOfBoundsException, IllegalArgumentException {
        requireDevice(device);
        requireKind(kind);
        return hub.isPluggedIn(device) ? hub.scoreOf(device, kind) : NONE;
    }

    public int feared(int device) throws IndexOutOfBoundsException {
        requireDevice(device);
        return hub.fearedKind(device);
    }

    public int framesToClear(int device) throws IndexOutOfBoundsException {
        requireDevice(device);
        return hub.clearingFrames(device);
    }

    public int atStake(int device) throws IndexOutOfBoundsException {
        requireDevice(device);
        return hub.unitsAtStake(device);
    }

    public int weakest() {
        return hub.weakestDevice();
    }

    public int whyNotRunning(int stream) throws IndexOutOfBoundsException {
        requireStream(stream);
        return hub.reasonNotToRun(stream);
    }

    public int event(int k, int part) throws IllegalArgumentException {
        if (part < 0 || part > 2) {
            throw new IllegalArgumentException("no such part of an event");
        }
        return hub.state.log.partOf(k, part);
    }

    public int account(int what) throws IllegalArgumentException {
        if (what < 0 || what >= Log.ACCOUNTS) {
            throw new IllegalArgumentException("no such account");
        }
        return hub.state.log.totals[what];
    }

    public double rightShare() {
        int right = hub.state.log.totals[Log.RIGHT];
        int over = right + hub.state.log.totals[Log.WRONG];
        return over > 0 ? (double) right / (double) over : 0.0;
    }

    // ---- changes

    public int frames(int frames) throws IllegalArgumentException {
        if (frames < 1 || frames > MOST_FRAMES) {
            throw new IllegalArgumentException("no such number of frames");
        }
        history.remember(hub.state);
        for (int frame = 0; frame < frames; frame++) {
            hub.passFrame();
        }
        return hub.reserved();
    }

    public int fail(int device, int kind)
            throws IndexOutOfBoundsException, IllegalArgumentException, IllegalStateException {
        requireDevice(device);
        requireKind(kind);
        requirePluggedIn(device);
        history.remember(hub.state);
        hub.takeError(device, kind);
        return hub.scoreOf(device, NONE);
    }

    public int warn(int device) throws IndexOutOfBoundsException, IllegalStateException {
        requireDevice(device);
        requirePluggedIn(device);
        if (hub.inAlarm(device)) {
            throw new IllegalStateException("the device is in alarm already");
        }
        history.remember(hub.state);
        int clearing = hub.clearingFrames(device);
        hub.beginAlarm(device);
        hub.settle();
        return clearing;
    }

    public int callOff(int device) throws IndexOutOfBoundsException, IllegalStateException {
        requireDevice(device);
        if (!hub.inAlarm(device)) {
            throw new IllegalStateException("the device is not in alarm");
        }
        history.remember(hub.state);
        hub.endWrongAlarm(device);
        hub.settle();
        return Integer.bitCount(hub.heldBits(device));
    }

    public int unplug(int device) throws IndexOutOfBoundsException, IllegalStateException {
        requireDevice(device);
        requirePluggedIn(device);
        history.remember(hub.state);
        return hub.pullOut(device);
    }

    public int plug(int device, int port) throws IndexOutOfBoundsException, IllegalStateException {
        requireDevice(device);
        requirePort(port);
        if (hub.isPluggedIn(device)) {
            throw new IllegalStateException("the device is plugged in already");
        }
        if (hub.pluggedInAt(port) != NONE) {
            throw new IllegalStateException("another device is at the port");
        }
        history.remember(hub.state);
        hub.putIn(device, port);
        return Integer.bitCount(hub.heldBits(device));
    }

    public int setScore(int score) throws IllegalArgumentException {
        if (score < 1 || score > MOST_SCORE) {
            throw new IllegalArgumentException("no such score");
        }
        history.remember(hub.state);
        int previous = hub.state.alarmScore;
        hub.state.alarmScore = score;
        return previous;
    }

    // ---- undo and snapshots

    public int undo() {
        return history.takeBack(hub.state) ? history.kept : NONE;
    }

    public boolean saveSnapshot(int slot) {
        if (slot < 0 || slot >= SLOTS) {
            return false;
        }
        snapshots[slot].copyFrom(hub.state);
        snapshotTaken[slot] = true;
        return true;
    }

    public boolean restoreSnapshot(int slot) {
        if (slot < 0 || slot >= SLOTS || !snapshotTaken[slot]) {
            return false;
        }
        hub.state.copyFrom(snapshots[slot]);
        history.clear();
        return true;
    }

    private void requireDevice(int device) {
        if (!hub.isDevice(device)) {
            throw new IndexOutOfBoundsException("no such device");
        }
    }

    private void requireStream(int stream) {
        if (stream < 0 || stream >= hub.plan.streams) {
            throw new IndexOutOfBoundsException("no such stream");
        }
    }

    private void requirePort(int port) {
        if (port < 0 || port >= hub.plan.ports) {
            throw new IndexOutOfBoundsException("no such port");
        }
    }

    private void requireKind(int kind) {
        if (kind < 0 || kind >= KINDS) {
            throw new IllegalArgumentException("no such kind of error");
        }
    }

    private void requirePluggedIn(int device) {
        if (!hub.isPluggedIn(device)) {
            throw new IllegalStateException("the device is not plugged in");
        }
    }

    /** What the text tells; no change alters it, so that it is neither undone nor in a snapshot. */
    private static final class Plan {
        int whole;
        int ports;
        int score;
        int grace;
        int patterns;
        int devices;
        int streams;
        final int[] weight = new int[MOST_PATTERNS];
        final int[] within = new int[MOST_PATTERNS];
        final int[] patternErrors = new int[MOST_PATTERNS];
        final int[] patternKinds = new int[MOST_PATTERNS * MOST_PATTERN_ERRORS];
        final int[] firstPort = new int[MOST_DEVICES];
        final int[] heir = new int[MOST_DEVICES];
        final int[] home = new int[MOST_STREAMS];
        final int[] rate = new int[MOST_STREAMS];
        final int[] packet = new int[MOST_STREAMS];

        Plan() {
            clear();
        }

        void clear() {
            whole = 1;
            ports = 1;
            score = 10;
            grace = 5;
            patterns = 0;
            devices = 0;
            streams = 0;
        }
    }

    /** The input buffer, and the parser of its first bytes. */
    private static final class Reader {
        private static final int END = 0;
        private static final int WORD = 1;
        private static final int NUMBER = 2;
        private static final int SEMICOLON = 3;
        private static final int ILLEGAL = 4;
        private static final int WHITE_SPACE = 5;

        private static final int SYNTAX = 1;
        private static final int UNKNOWN = 2;
        private static final int REPEATED = 3;
        private static final int RANGE = 4;
        private static final int TOO_MANY = 5;

        private static final int MOST_LETTERS = 8;
        private static final int MOST_DIGITS = 4;

        private final byte[] buffer = new byte[MOST_BYTES];
        int filled;

        private int textEnd;
        private int position;
        private int token;
        private int tokenStart;
        /** Of a number what it counts, of a word a code of its letters. */
        private long value;

        private int faultOffset;
        private int faultKind;

        /** The parser fills a plan of its own, because the hub keeps its plan behind a syntax error. */
        private Plan plan = new Plan();
        private boolean alarmTold;
        private final long[] patternNames = new long[MOST_PATTERNS];
        private final long[] deviceNames = new long[MOST_DEVICES];
        private final long[] streamNames = new long[MOST_STREAMS];

        boolean hasRoomFor(int bytes) {
            return filled + bytes <= MOST_BYTES;
        }

        void addBytesOf(int four) {
            for (int shift = 24; shift >= 0; shift -= 8) {
                if (filled < MOST_BYTES) {
                    buffer[filled] = (byte) (four >>> shift);
                    filled++;
                }
            }
        }

        /** Hands out the plan that was read, and takes another one to be filled by the next text. */
        Plan exchangePlan(Plan other) {
            Plan read = plan;
            plan = other;
            return read;
        }

        int faultAnswer() {
            return -2 - (8 * faultOffset + faultKind);
        }

        /** Stops at the first fault: the texts' faults come in the order of their offsets. */
        boolean read(int length) {
            textEnd = Math.max(0, Math.min(length, filled));
            position = 0;
            alarmTold = false;
            plan.clear();
            advance();
            if (!readHeader()) {
                return false;
            }
            // A statement takes a byte at least, so no text has more statements than bytes.
            for (int statement = 0; statement <= MOST_BYTES; statement++) {
                if (token == END) {
                    return true;
                }
                if (!readStatement()) {
                    return false;
                }
            }
            return fault(SYNTAX);
        }

        private boolean readHeader() {
            if (!isWord("hub")) {
                return fault(SYNTAX);
            }
            advance();
            if (!isNumberWithin(1, 999)) {
                return false;
            }
            plan.whole = (int) value;
            advance();
            if (!isNumberWithin(1, MOST_DEVICES)) {
                return false;
            }
            plan.ports = (int) value;
            advance();
            return takeSemicolon();
        }

        private boolean readStatement() {
            if (isWord("pattern")) {
                return readPattern() && takeSemicolon();
            }
            if (isWord("device")) {
                return readDevice() && takeSemicolon();
            }
            if (isWord("stream")) {
                return readStream() && takeSemicolon();
            }
            if (isWord("alarm")) {
                return readAlarm() && takeSemicolon();
            }
            return fault(SYNTAX);
        }

        private boolean readPattern() {
            int pattern = plan.patterns;
            if (pattern >= MOST_PATTERNS) {
                return fault(TOO_MANY);
            }
            advance();
            if (!takeNewName(patternNames, pattern)) {
                return false;
            }
            if (!isNumberWithin(1, 99)) {
                return false;
            }
            plan.weight[pattern] = (int) value;
            advance();
            if (!isNumberWithin(1, 200)) {
                return false;
            }
            plan.within[pattern] = (int) value;
            advance();
            plan.patterns = pattern + 1;
            return readPatternErrors(pattern);
        }

        private boolean readPatternErrors(int pattern) {
            int errors = 0;
            while (errors < MOST_PATTERN_ERRORS && kindOfWord() != NONE) {
                plan.patternKinds[pattern * MOST_PATTERN_ERRORS + errors] = kindOfWord();
                errors++;
                advance();
            }
            plan.patternErrors[pattern] = errors;
            if (errors == 0) {
                return fault(SYNTAX);
            }
            return kindOfWord() == NONE || fault(TOO_MANY);
        }

        private boolean readDevice() {
            int device = plan.devices;
            if (device >= MOST_DEVICES) {
                return fault(TOO_MANY);
            }
            advance();
            if (!takeNewName(deviceNames, device)) {
                return false;
            }
            if (!isNumberWithin(0, plan.ports - 1)) {
                return false;
            }
            if (isTakenPort((int) value)) {
                return fault(REPEATED);
            }
            plan.firstPort[device] = (int) value;
            advance();
            plan.heir[device] = NONE;
            if (isWord("heir")) {
                advance();
                if (!isKnownDevice()) {
                    return false;
                }
                plan.heir[device] = indexOfWord(deviceNames, device);
                advance();
            }
            plan.devices = device + 1;
            return true;
        }

        private boolean readStream() {
            int stream = plan.streams;
            if (stream >= MOST_STREAMS) {
                return fault(TOO_MANY);
            }
            advance();
            if (!takeNewName(streamNames, stream)) {
                return false;
            }
            if (!isKnownDevice()) {
                return false;
            }
            plan.home[stream] = indexOfWord(deviceNames, plan.devices);
            advance();
            if (!isNumberWithin(1, plan.whole)) {
                return false;
            }
            plan.rate[stream] = (int) value;
            advance();
            if (!isNumberWithin(1, 9999)) {
                return false;
            }
            plan.packet[stream] = (int) value;
            advance();
            plan.streams = stream + 1;
            return true;
        }

        private boolean readAlarm() {
            if (alarmTold) {
                return fault(REPEATED);
            }
            alarmTold = true;
            advance();
            if (!isNumberWithin(1, MOST_SCORE)) {
                return false;
            }
            plan.score = (int) value;
            advance();
            if (!isNumberWithin(1, 99)) {
                return false;
            }
            plan.grace = (int) value;
            advance();
            return true;
        }

        private boolean takeSemicolon() {
            if (token != SEMICOLON) {
                return fault(SYNTAX);
            }
            advance();
            return true;
        }

        private boolean takeNewName(long[] names, int known) {
            if (token != WORD) {
                return fault(SYNTAX);
            }
            if (indexOfWord(names, known) != NONE) {
                return fault(REPEATED);
            }
            if (known >= 0 && known < names.length) {
                names[known] = value;
            }
            advance();
            return true;
        }

        private boolean isKnownDevice() {
            if (token != WORD) {
                return fault(SYNTAX);
            }
            return indexOfWord(deviceNames, plan.devices) != NONE || fault(UNKNOWN);
        }

        private boolean isNumberWithin(int least, int most) {
            if (token != NUMBER) {
                return fault(SYNTAX);
            }
            return value >= least && value <= most || fault(RANGE);
        }

        private boolean isTakenPort(int port) {
            for (int device = 0; device < plan.devices && device < MOST_DEVICES; device++) {
                if (plan.firstPort[device] == port) {
                    return true;
                }
            }
            return false;
        }

        private int indexOfWord(long[] names, int known) {
            for (int i = 0; i < known && i < names.length; i++) {
                if (names[i] == value) {
                    return i;
                }
            }
            return NONE;
        }

        private int kindOfWord() {
            if (isWord("crc")) {
                return 0;
            }
            if (isWord("stall")) {
                return 1;
            }
            if (isWord("jitter")) {
                return 2;
            }
            return isWord("power") ? 3 : NONE;
        }

        private boolean isWord(String text) {
            if (token != WORD || position - tokenStart != text.length()) {
                return false;
            }
            for (int i = 0; i < text.length(); i++) {
                if (buffer[tokenStart + i] != text.charAt(i)) {
                    return false;
                }
            }
            return true;
        }

        private boolean fault(int kind) {
            faultOffset = tokenStart;
            faultKind = kind;
            return false;
        }

        private void advance() {
            while (position < textEnd && kindOfSign(buffer[position]) == WHITE_SPACE) {
                position++;
            }
            tokenStart = position;
            token = position < textEnd ? kindOfSign(buffer[position]) : END;
            if (token != WORD && token != NUMBER) {
                position = Math.min(position + 1, textEnd);
                return;
            }
            // Letters count from 1, so that no two legal words have the same value.
            int base = token == WORD ? 27 : 10;
            int zero = token == WORD ? 'a' - 1 : '0';
            value = 0;
            while (position < textEnd && kindOfSign(buffer[position]) == token) {
                value = value * base + (buffer[position] - zero);
                position++;
            }
            if (position - tokenStart > (token == WORD ? MOST_LETTERS : MOST_DIGITS)) {
                token = ILLEGAL;
            }
        }

        private static int kindOfSign(int sign) {
            if (sign == 32 || sign == 10) {
                return WHITE_SPACE;
            }
            if (sign >= 'a' && sign <= 'z') {
                return WORD;
            }
            if (sign >= '0' && sign <= '9') {
                return NUMBER;
            }
            return sign == ';' ? SEMICOLON : ILLEGAL;
        }
    }

    /** The latest events, and the totals since parse. */
    private static final class Log {
        static final int BEGUN = 0;
        static final int WRONG = 1;
        static final int RIGHT = 2;
        static final int UNFORESEEN = 3;
        static final int HANDED_OVER = 4;
        static final int SET_WAITING = 5;
        static final int TAKEN_UP = 6;
        static final int TORN = 7;
        static final int LOST_UNITS = 8;
        static final int ERRORS = 9;
        static final int ACCOUNTS = 10;

        private static final int MOST_KEPT = 24;

        private int kept;
        private int next;
        private final int[] kinds = new int[MOST_KEPT];
        private final int[] items = new int[MOST_KEPT];
        private final int[] times = new int[MOST_KEPT];
        final int[] totals = new int[ACCOUNTS];

        void clear() {
            kept = 0;
            next = 0;
            for (int what = 0; what < ACCOUNTS; what++) {
                totals[what] = 0;
            }
        }

        void copyFrom(Log other) {
            kept = other.kept;
            next = other.next;
            System.arraycopy(other.kinds, 0, kinds, 0, MOST_KEPT);
            System.arraycopy(other.items, 0, items, 0, MOST_KEPT);
            System.arraycopy(other.times, 0, times, 0, MOST_KEPT);
            System.arraycopy(other.totals, 0, totals, 0, ACCOUNTS);
        }

        void add(int kind, int item, int time) {
            if (kind >= 0 && kind < ACCOUNTS) {
                totals[kind]++;
            }
            if (next < 0 || next >= MOST_KEPT) {
                next = 0;
            }
            kinds[next] = kind;
            items[next] = item;
            times[next] = time;
            next++;
            kept = Math.min(kept + 1, MOST_KEPT);
        }

        int partOf(int k, int part) {
            if (k < 0 || k >= kept) {
                return NONE;
            }
            int place = Math.floorMod(next - 1 - k, MOST_KEPT);
            switch (part) {
                case 0: return kinds[place];
                case 1: return items[place];
                default: return times[place];
            }
        }
    }

    /** The kept errors of each device, the oldest first, and how many of each couple ever came. */
    private static final class ErrorBook {
        private static final int MOST_KEPT = 12;
        private static final int MOST_CAUSES = MOST_DEVICES * KINDS;

        final int[] kept = new int[MOST_DEVICES];
        private final int[] kinds = new int[MOST_DEVICES * MOST_KEPT];
        private final int[] times = new int[MOST_DEVICES * MOST_KEPT];
        private int causes;
        private final int[] causeOrder = new int[MOST_CAUSES];
        private final int[] causeTotals = new int[MOST_CAUSES];

        void clear() {
            causes = 0;
            for (int couple = 0; couple < MOST_CAUSES; couple++) {
                causeTotals[couple] = 0;
            }
            for (int device = 0; device < MOST_DEVICES; device++) {
                kept[device] = 0;
            }
        }

        void copyFrom(ErrorBook other) {
            causes = other.causes;
            System.arraycopy(other.kept, 0, kept, 0, MOST_DEVICES);
            System.arraycopy(other.kinds, 0, kinds, 0, MOST_DEVICES * MOST_KEPT);
            System.arraycopy(other.times, 0, times, 0, MOST_DEVICES * MOST_KEPT);
            System.arraycopy(other.causeOrder, 0, causeOrder, 0, MOST_CAUSES);
            System.arraycopy(other.causeTotals, 0, causeTotals, 0, MOST_CAUSES);
        }

        void add(int device, int kind, int time) {
            if (device < 0 || device >= MOST_DEVICES || kind < 0 || kind >= KINDS) {
                return;
            }
            if (kept[device] >= MOST_KEPT) {
                dropOldest(device);
            }
            int place = device * MOST_KEPT + kept[device];
            if (place >= 0 && place < kinds.length) {
                kinds[place] = kind;
                times[place] = time;
                kept[device]++;
            }
            countCause(device * KINDS + kind);
        }

        private void dropOldest(int device) {
            int first = device * MOST_KEPT;
            for (int place = first; place < first + MOST_KEPT - 1; place++) {
                kinds[place] = kinds[place + 1];
                times[place] = times[place + 1];
            }
            kept[device] = MOST_KEPT - 1;
        }

        private void countCause(int couple) {
            if (couple < 0 || couple >= MOST_CAUSES) {
                return;
            }
            if (causeTotals[couple] == 0 && causes < MOST_CAUSES) {
                causeOrder[causes] = couple;
                causes++;
            }
            causeTotals[couple]++;
        }

        void forget(int device) {
            if (device >= 0 && device < MOST_DEVICES) {
                kept[device] = 0;
            }
        }

        int kindOf(int device, int k) {
            int place = placeOf(device, k);
            return place == NONE ? NONE : kinds[place];
        }

        int timeOf(int device, int k) {
            int place = placeOf(device, k);
            return place == NONE ? NONE : times[place];
        }

        private int placeOf(int device, int k) {
            if (device < 0 || device >= MOST_DEVICES || k < 0 || k >= kept[device]) {
                return NONE;
            }
            return device * MOST_KEPT + kept[device] - 1 - k;
        }

        /** The number of kept errors that would stay if one more came. */
        int staying(int device) {
            if (device < 0 || device >= MOST_DEVICES) {
                return 0;
            }
            return Math.min(kept[device], MOST_KEPT - 1);
        }

        int causePart(int k, int part) {
            if (k < 0 || k >= causes || k >= MOST_CAUSES) {
                return NONE;
            }
            int couple = causeOrder[k];
            switch (part) {
                case 0: return couple / KINDS;
                case 1: return couple % KINDS;
                default: return couple >= 0 && couple < MOST_CAUSES ? causeTotals[couple] : NONE;
            }
        }
    }

    /** All that changes can change, and so all that undo and snapshots bring back. */
    private static final class State {
        static final int WAITING = 0;
        static final int RUNNING = 1;
        static final int ENDING = 2;

        int time;
        int alarmScore;
        final int[] port = new int[MOST_DEVICES];
        /** The time at which the alarm of a device began, NONE if it is calm. */
        final int[] alarmSince = new int[MOST_DEVICES];
        final int[] holder = new int[MOST_STREAMS];
        final int[] mode = new int[MOST_STREAMS];
        final int[] done = new int[MOST_STREAMS];
        final long[] sent = new long[MOST_STREAMS];
        final ErrorBook errors = new ErrorBook();
        final Log log = new Log();

        void begin(Plan plan) {
            time = 0;
            alarmScore = plan.score;
            for (int device = 0; device < MOST_DEVICES; device++) {
                port[device] = device < plan.devices ? plan.firstPort[device] : NONE;
                alarmSince[device] = NONE;
            }
            for (int stream = 0; stream < MOST_STREAMS; stream++) {
                holder[stream] = NONE;
                mode[stream] = WAITING;
                done[stream] = 0;
                sent[stream] = 0;
            }
            errors.clear();
            log.clear();
        }

        void copyFrom(State other) {
            time = other.time;
            alarmScore = other.alarmScore;
            System.arraycopy(other.port, 0, port, 0, MOST_DEVICES);
            System.arraycopy(other.alarmSince, 0, alarmSince, 0, MOST_DEVICES);
            System.arraycopy(other.holder, 0, holder, 0, MOST_STREAMS);
            System.arraycopy(other.mode, 0, mode, 0, MOST_STREAMS);
            System.arraycopy(other.done, 0, done, 0, MOST_STREAMS);
            System.arraycopy(other.sent, 0, sent, 0, MOST_STREAMS);
            errors.copyFrom(other.errors);
            log.copyFrom(other.log);
        }
    }

    /** The states before the latest changes, in a ring, so that no change makes a new state. */
    private static final class History {
        private static final int MOST_KEPT = 10;

        private final State[] states = new State[MOST_KEPT];
        int kept;
        private int next;

        History() {
            for (int place = 0; place < MOST_KEPT; place++) {
                states[place] = new State();
            }
        }

        void clear() {
            kept = 0;
        }

        void remember(State state) {
            if (next < 0 || next >= MOST_KEPT) {
                next = 0;
            }
            states[next].copyFrom(state);
            next = (next + 1) % MOST_KEPT;
            kept = Math.min(kept + 1, MOST_KEPT);
        }

        boolean takeBack(State state) {
            if (kept <= 0) {
                return false;
            }
            next = Math.floorMod(next - 1, MOST_KEPT);
            state.copyFrom(states[next]);
            kept--;
            return true;
        }
    }

    /** The plan and the present state, and the rules by which the state goes on. */
    private static final class Hub {
        Plan plan;
        final State state;

        Hub() {
            plan = new Plan();
            state = new State();
            // Without devices and streams nothing else of a new state is ever looked at.
            state.alarmScore = plan.score;
        }

        void begin(Plan newPlan) {
            plan = newPlan;
            state.begin(newPlan);
            settle();
        }

        // devices

        boolean isDevice(int device) {
            return device >= 0 && device < plan.devices && device < MOST_DEVICES;
        }

        boolean isPluggedIn(int device) {
            return isDevice(device) && state.port[device] != NONE;
        }

        boolean inAlarm(int device) {
            return isDevice(device) && state.alarmSince[device] != NONE;
        }

        private boolean canHold(int device) {
            return isDevice(device) && state.port[device] != NONE && state.alarmSince[device] == NONE;
        }

        int pluggedInAt(int port) {
            for (int device = 0; device < plan.devices; device++) {
                if (state.port[device] == port) {
                    return device;
                }
            }
            return NONE;
        }

        int heldBits(int device) {
            int bits = 0;
            for (int stream = 0; stream < plan.streams; stream++) {
                if (state.holder[stream] == device) {
                    bits |= 1 << stream;
                }
            }
            return bits;
        }

        int reservedFor(int device) {
            int rates = 0;
            for (int stream = 0; stream < plan.streams; stream++) {
                if (state.holder[stream] == device) {
                    rates += plan.rate[stream];
                }
            }
            return rates;
        }

        int unitsAtStake(int device) {
            int units = 0;
            for (int stream = 0; stream < plan.streams; stream++) {
                if (state.holder[stream] == device) {
                    units += state.done[stream];
                }
            }
            return units;
        }

        int clearingFrames(int device) {
            int most = 0;
            for (int stream = 0; stream < plan.streams; stream++) {
                if (state.holder[stream] == device && state.done[stream] > 0) {
                    most = Math.max(most, framesToPacketEnd(stream));
                }
            }
            return most;
        }

        private int framesToPacketEnd(int stream) {
            int rate = plan.rate[stream];
            int missing = plan.packet[stream] - state.done[stream];
            return rate > 0 ? (missing + rate - 1) / rate : 0;
        }

        int weakestDevice() {
            int weakest = NONE;
            int greatest = NONE;
            for (int device = 0; device < plan.devices; device++) {
                if (isPluggedIn(device) && scoreOf(device, NONE) > greatest) {
                    weakest = device;
                    greatest = scoreOf(device, NONE);
                }
            }
            return weakest;
        }

        // errors and scores; the kind of a further error is NONE where none is supposed to come

        int scoreOf(int device, int furtherKind) {
            int matching = matchingBits(device, furtherKind);
            int score = 0;
            for (int pattern = 0; pattern < plan.patterns; pattern++) {
                if ((matching >> pattern & 1) == 1) {
                    score += plan.weight[pattern];
                }
            }
            return score;
        }

        int matchingBits(int device, int furtherKind) {
            int bits = 0;
            for (int pattern = 0; pattern < plan.patterns; pattern++) {
                if (matches(pattern, device, furtherKind)) {
                    bits |= 1 << pattern;
                }
            }
            return bits;
        }

        /** Taking each error of the pattern as early as it can be taken leaves most for the others. */
        private boolean matches(int pattern, int device, int furtherKind) {
            if (!isDevice(device)) {
                return false;
            }
            int tooOld = state.time - plan.within[pattern];
            int oldest = furtherKind == NONE ? state.errors.kept[device] : state.errors.staying(device);
            int found = 0;
            for (int k = oldest - 1; k >= 0; k--) {
                boolean counts = state.errors.timeOf(device, k) > tooOld;
                if (counts && isNextOf(pattern, found, state.errors.kindOf(device, k))) {
                    found++;
                }
            }
            if (furtherKind != NONE && isNextOf(pattern, found, furtherKind)) {
                found++;
            }
            return found == plan.patternErrors[pattern];
        }

        private boolean isNextOf(int pattern, int found, int kind) {
            return found < plan.patternErrors[pattern] && found < MOST_PATTERN_ERRORS
                    && plan.patternKinds[pattern * MOST_PATTERN_ERRORS + found] == kind;
        }

        int fearedKind(int device) {
            if (!canHold(device)) {
                return NONE;
            }
            for (int kind = 0; kind < KINDS; kind++) {
                if (scoreOf(device, kind) >= state.alarmScore) {
                    return kind;
                }
            }
            return NONE;
        }

        void takeError(int device, int kind) {
            state.errors.add(device, kind, state.time);
            state.log.totals[Log.ERRORS]++;
            if (!inAlarm(device) && scoreOf(device, NONE) >= state.alarmScore) {
                beginAlarm(device);
                settle();
            }
        }

        // alarms and plugs

        void beginAlarm(int device) {
            if (isDevice(device)) {
                state.alarmSince[device] = state.time;
                state.log.add(Log.BEGUN, device, state.time);
            }
        }

        void endWrongAlarm(int device) {
            if (isDevice(device)) {
                state.alarmSince[device] = NONE;
                state.errors.forget(device);
                state.log.add(Log.WRONG, device, state.time);
            }
        }

        private boolean isWrongAlarm(int device) {
            if (!inAlarm(device) || state.time - state.alarmSince[device] < plan.grace) {
                return false;
            }
            return state.errors.kept[device] == 0
                    || state.time - state.errors.timeOf(device, 0) >= plan.grace;
        }

        int pullOut(int device) {
            if (!isDevice(device)) {
                return 0;
            }
            state.log.add(inAlarm(device) ? Log.RIGHT : Log.UNFORESEEN, device, state.time);
            state.port[device] = NONE;
            state.alarmSince[device] = NONE;
            state.errors.forget(device);
            int lost = 0;
            for (int stream = 0; stream < plan.streams; stream++) {
                if (state.holder[stream] == device) {
                    lost += dropStream(stream);
                }
            }
            state.log.totals[Log.LOST_UNITS] += lost;
            settle();
            return lost;
        }

        private int dropStream(int stream) {
            int lost = state.done[stream];
            if (lost > 0) {
                state.log.add(Log.TORN, stream, state.time);
            }
            state.done[stream] = 0;
            state.holder[stream] = NONE;
            state.mode[stream] = State.WAITING;
            return lost;
        }

        void putIn(int device, int port) {
            if (isDevice(device)) {
                state.port[device] = port;
                state.alarmSince[device] = NONE;
                settle();
            }
        }

        // streams

        int reserved() {
            int rates = 0;
            for (int stream = 0; stream < plan.streams; stream++) {
                if (state.mode[stream] != State.WAITING) {
                    rates += plan.rate[stream];
                }
            }
            return rates;
        }

        private int heirOfHome(int stream) {
            int home = plan.home[stream];
            return isDevice(home) ? plan.heir[home] : NONE;
        }

        int wantedHolder(int stream) {
            int home = plan.home[stream];
            if (canHold(home)) {
                return home;
            }
            int heir = heirOfHome(stream);
            return canHold(heir) ? heir : NONE;
        }

        int reasonNotToRun(int stream) {
            if (state.mode[stream] == State.RUNNING) {
                return 0;
            }
            if (wantedHolder(stream) == NONE) {
                return heirOfHome(stream) == NONE ? 1 : 2;
            }
            return state.mode[stream] == State.WAITING ? 3 : 4;
        }

        void settle() {
            for (int stream = 0; stream < plan.streams; stream++) {
                if (state.mode[stream] != State.WAITING) {
                    settleHeld(stream);
                }
            }
            int free = plan.whole - reserved();
            for (int stream = 0; stream < plan.streams; stream++) {
                int wanted = wantedHolder(stream);
                boolean waits = state.mode[stream] == State.WAITING;
                if (waits && wanted != NONE && plan.rate[stream] <= free) {
                    free -= plan.rate[stream];
                    state.holder[stream] = wanted;
                    state.mode[stream] = State.RUNNING;
                    state.log.add(Log.TAKEN_UP, stream, state.time);
                }
            }
        }

        private void settleHeld(int stream) {
            int wanted = wantedHolder(stream);
            if (state.holder[stream] == wanted) {
                state.mode[stream] = State.RUNNING;
            } else if (state.done[stream] > 0) {
                state.mode[stream] = State.ENDING;
            } else {
                state.holder[stream] = wanted;
                state.mode[stream] = wanted == NONE ? State.WAITING : State.RUNNING;
                state.log.add(wanted == NONE ? Log.SET_WAITING : Log.HANDED_OVER, stream, state.time);
            }
        }

        void passFrame() {
            state.time++;
            for (int stream = 0; stream < plan.streams; stream++) {
                if (state.mode[stream] == State.RUNNING) {
                    sendOn(stream);
                } else if (state.mode[stream] == State.ENDING) {
                    sendToPacketEnd(stream);
                }
            }
            for (int device = 0; device < plan.devices; device++) {
                if (isWrongAlarm(device)) {
                    endWrongAlarm(device);
                }
            }
            settle();
        }

        private void sendOn(int stream) {
            int units = state.done[stream] + plan.rate[stream];
            int packet = plan.packet[stream];
            if (packet > 0) {
                state.sent[stream] += units / packet;
                state.done[stream] = units % packet;
            }
        }

        private void sendToPacketEnd(int stream) {
            int units = state.done[stream] + plan.rate[stream];
            if (units >= plan.packet[stream]) {
                state.sent[stream]++;
                units = 0;
            }
            state.done[stream] = units;
        }
    }
}
