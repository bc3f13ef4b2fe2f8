import java.util.ArrayList;
import java.util.LinkedHashMap;
import java.util.List;
import java.util.Map;

/**
 * The document once more, written with lists and copies and without a thought of cost,
 * so that ModelTest can hold the class against it.
 */
final class NaiveHub {
    private static final int NONE = -1;

    private static final class Pattern {
        String name;
        int weight;
        int within;
        List<Integer> errors = new ArrayList<>();
    }

    private static final class Device {
        String name;
        int port;
        int heir = NONE;
    }

    private static final class Stream {
        String name;
        int home;
        int rate;
        int packet;
    }

    private static final class Text {
        int whole = 1;
        int ports = 1;
        int score = 10;
        int grace = 5;
        boolean alarm;
        List<Pattern> patterns = new ArrayList<>();
        List<Device> devices = new ArrayList<>();
        List<Stream> streams = new ArrayList<>();
    }

    private static final class Fault extends RuntimeException {
        private static final long serialVersionUID = 1L;
        final int offset;
        final int kind;

        Fault(int offset, int kind) {
            this.offset = offset;
            this.kind = kind;
        }
    }

    private record Token(char sort, String text, int offset) { }

    /** All that changes can change. */
    private static final class Now {
        int time;
        int score;
        Map<Integer, Integer> ports = new LinkedHashMap<>();
        Map<Integer, Integer> alarms = new LinkedHashMap<>();
        List<List<int[]>> errors = new ArrayList<>();
        List<Integer> holders = new ArrayList<>();
        List<Boolean> ending = new ArrayList<>();
        List<Integer> done = new ArrayList<>();
        List<Long> sent = new ArrayList<>();
        Map<String, Integer> causes = new LinkedHashMap<>();
        List<int[]> events = new ArrayList<>();
        int lost;

        Now copy() {
            Now copy = new Now();
            copy.time = time;
            copy.score = score;
            copy.ports.putAll(ports);
            copy.alarms.putAll(alarms);
            for (List<int[]> list : errors) {
                copy.errors.add(new ArrayList<>(list));
            }
            copy.holders.addAll(holders);
            copy.ending.addAll(ending);
            copy.done.addAll(done);
            copy.sent.addAll(sent);
            copy.causes.putAll(causes);
            copy.events.addAll(events);
            copy.lost = lost;
            return copy;
        }
    }

    private final List<Byte> buffer = new ArrayList<>();
    private Text text = new Text();
    private Now now = new Now();
    private final List<Now> past = new ArrayList<>();
    private final Now[] slots = new Now[2];

    NaiveHub() {
        start(new Text());
    }

    private void start(Text read) {
        text = read;
        now = new Now();
        now.score = read.score;
        for (int i = 0; i < read.devices.size(); i++) {
            now.ports.put(i, read.devices.get(i).port);
            now.errors.add(new ArrayList<>());
        }
        for (int i = 0; i < read.streams.size(); i++) {
            now.holders.add(NONE);
            now.ending.add(false);
            now.done.add(0);
            now.sent.add(0L);
        }
        settle();
    }

    public int append(int a, int b, int c, int d, int e) {
        if (buffer.size() + 20 > 600) {
            return NONE;
        }
        for (int four : new int[] {a, b, c, d, e}) {
            buffer.add((byte) (four >> 24));
            buffer.add((byte) (four >> 16));
            buffer.add((byte) (four >> 8));
            buffer.add((byte) four);
        }
        return buffer.size();
    }

    // ---- the text

    private List<Token> tokens(String s) {
        List<Token> all = new ArrayList<>();
        int i = 0;
        while (i < s.length()) {
            String rest = s.substring(i);
            if (rest.matches("(?s)[ \n].*")) {
                i++;
                continue;
            }
            String letters = rest.replaceFirst("(?s)[^a-z].*", "");
            String digits = rest.replaceFirst("(?s)[^0-9].*", "");
            String run = letters.isEmpty() ? digits : letters;
            char sort = '?';
            if (!letters.isEmpty() && letters.length() <= 8) {
                sort = 'w';
            } else if (!digits.isEmpty() && digits.length() <= 4) {
                sort = 'n';
            } else if (rest.charAt(0) == ';') {
                sort = ';';
            }
            all.add(new Token(sort, run, i));
            i += Math.max(1, run.length());
        }
        all.add(new Token('$', "", s.length()));
        return all;
    }

    private List<Token> coming;

    private Token peek() {
        return coming.get(0);
    }

    private Token take(char sort) {
        if (peek().sort != sort) {
            throw new Fault(peek().offset, 1);
        }
        return coming.remove(0);
    }

    private int takeNumber(int low, int high) {
        Token t = take('n');
        int n = Integer.parseInt(t.text);
        if (n < low || n > high) {
            throw new Fault(t.offset, 4);
        }
        return n;
    }

    private String takeName(List<String> known) {
        Token t = take('w');
        if (known.contains(t.text)) {
            throw new Fault(t.offset, 3);
        }
        return t.text;
    }

    private int takeDevice(Text read) {
        Token t = take('w');
        int device = read.devices.stream().map(x -> x.name).toList().indexOf(t.text);
        if (device < 0) {
            throw new Fault(t.offset, 2);
        }
        return device;
    }

    private Text read(String s) {
        coming = tokens(s);
        Text read = new Text();
        Token first = take('w');
        if (!first.text.equals("hub")) {
            throw new Fault(first.offset, 1);
        }
        read.whole = takeNumber(1, 999);
        read.ports = takeNumber(1, 8);
        take(';');
        while (peek().sort != '$') {
            Token word = take('w');
            switch (word.text) {
                case "pattern" -> pattern(read, word);
                case "device" -> device(read, word);
                case "stream" -> stream(read, word);
                case "alarm" -> alarm(read, word);
                default -> throw new Fault(word.offset, 1);
            }
            take(';');
        }
        return read;
    }

    private void pattern(Text read, Token word) {
        if (read.patterns.size() == 6) {
            throw new Fault(word.offset, 5);
        }
        Pattern p = new Pattern();
        p.name = takeName(read.patterns.stream().map(x -> x.name).toList());
        p.weight = takeNumber(1, 99);
        p.within = takeNumber(1, 200);
        List<String> kinds = List.of("crc", "stall", "jitter", "power");
        do {
            Token t = take('w');
            if (!kinds.contains(t.text)) {
                throw new Fault(t.offset, 1);
            }
            if (p.errors.size() == 5) {
                throw new Fault(t.offset, 5);
            }
            p.errors.add(kinds.indexOf(t.text));
        } while (peek().sort != ';');
        read.patterns.add(p);
    }

    private void device(Text read, Token word) {
        if (read.devices.size() == 8) {
            throw new Fault(word.offset, 5);
        }
        Device d = new Device();
        d.name = takeName(read.devices.stream().map(x -> x.name).toList());
        int offset = peek().offset;
        d.port = takeNumber(0, read.ports - 1);
        if (read.devices.stream().anyMatch(x -> x.port == d.port)) {
            throw new Fault(offset, 3);
        }
        if (peek().text.equals("heir")) {
            take('w');
            d.heir = takeDevice(read);
        }
        read.devices.add(d);
    }

    private void stream(Text read, Token word) {
        if (read.streams.size() == 12) {
            throw new Fault(word.offset, 5);
        }
        Stream s = new Stream();
        s.name = takeName(read.streams.stream().map(x -> x.name).toList());
        s.home = takeDevice(read);
        s.rate = takeNumber(1, read.whole);
        s.packet = takeNumber(1, 9999);
        read.streams.add(s);
    }

    private void alarm(Text read, Token word) {
        if (read.alarm) {
            throw new Fault(word.offset, 3);
        }
        read.alarm = true;
        read.score = takeNumber(1, 999);
        read.grace = takeNumber(1, 99);
    }

    public int parse(int length) {
        if (length < 0 || length > buffer.size()) {
            throw new IllegalArgumentException();
        }
        StringBuilder s = new StringBuilder();
        for (int i = 0; i < length; i++) {
            s.append((char) (buffer.get(i) & 255));
        }
        buffer.clear();
        try {
            start(read(s.toString()));
        } catch (Fault f) {
            return -2 - (8 * f.offset + f.kind);
        }
        past.clear();
        slots[0] = null;
        slots[1] = null;
        return text.streams.size();
    }

    // ---- what can be asked for

    private void wantDevice(int device) {
        if (device < 0 || device >= text.devices.size()) {
            throw new IndexOutOfBoundsException();
        }
    }

    private void wantStream(int stream) {
        if (stream < 0 || stream >= text.streams.size()) {
            throw new IndexOutOfBoundsException();
        }
    }

    private void wantWithin(int what, int high) {
        if (what < 0 || what > high) {
            throw new IllegalArgumentException();
        }
    }

    private int reserved() {
        int sum = 0;
        for (int s = 0; s < text.streams.size(); s++) {
            sum += now.holders.get(s) == NONE ? 0 : text.streams.get(s).rate;
        }
        return sum;
    }

    public int size(int what) {
        wantWithin(what, 9);
        return new int[] {text.patterns.size(), text.devices.size(), text.streams.size(), text.whole, text.ports,
            now.time, reserved(), now.score, text.grace, past.size()}[what];
    }

    public int deviceAt(int port) {
        if (port < 0 || port >= text.ports) {
            throw new IndexOutOfBoundsException();
        }
        for (Map.Entry<Integer, Integer> e : now.ports.entrySet()) {
            if (e.getValue() == port) {
                return e.getKey();
            }
        }
        return NONE;
    }

    private List<Integer> heldBy(int device) {
        List<Integer> held = new ArrayList<>();
        for (int s = 0; s < text.streams.size(); s++) {
            if (now.holders.get(s) == device) {
                held.add(s);
            }
        }
        return held;
    }

    private boolean matches(Pattern p, List<int[]> errors) {
        return matches(p.errors, errors.stream().filter(e -> e[1] > now.time - p.within).toList());
    }

    /** Some of the errors are the wanted ones, tried in every way. */
    private boolean matches(List<Integer> wanted, List<int[]> errors) {
        if (wanted.isEmpty()) {
            return true;
        }
        for (int i = 0; i < errors.size(); i++) {
            if (errors.get(i)[0] == wanted.get(0)
                    && matches(wanted.subList(1, wanted.size()), errors.subList(i + 1, errors.size()))) {
                return true;
            }
        }
        return false;
    }

    private int bits(List<int[]> errors) {
        int bits = 0;
        for (int p = 0; p < text.patterns.size(); p++) {
            bits += matches(text.patterns.get(p), errors) ? 1 << p : 0;
        }
        return bits;
    }

    private int scoreOf(List<int[]> errors) {
        int score = 0;
        for (Pattern p : text.patterns) {
            score += matches(p, errors) ? p.weight : 0;
        }
        return score;
    }

    public int device(int device, int what) {
        wantDevice(device);
        wantWithin(what, 7);
        int held = 0;
        int rates = 0;
        for (int s : heldBy(device)) {
            held += 1 << s;
            rates += text.streams.get(s).rate;
        }
        return new int[] {now.ports.getOrDefault(device, NONE), text.devices.get(device).heir,
            now.alarms.containsKey(device) ? 1 : 0, scoreOf(now.errors.get(device)), bits(now.errors.get(device)),
            now.errors.get(device).size(), held, rates}[what];
    }

    private boolean calm(int device) {
        return device != NONE && now.ports.containsKey(device) && !now.alarms.containsKey(device);
    }

    private int wanted(int stream) {
        int home = text.streams.get(stream).home;
        int heir = text.devices.get(home).heir;
        return calm(home) ? home : calm(heir) ? heir : NONE;
    }

    public int stream(int stream, int what) {
        wantStream(stream);
        wantWithin(what, 6);
        Stream s = text.streams.get(stream);
        int mode = now.holders.get(stream) == NONE ? 0 : now.ending.get(stream) ? 2 : 1;
        return new int[] {mode, now.holders.get(stream), wanted(stream), s.rate, s.packet, now.done.get(stream),
            s.home}[what];
    }

    public long packets(int stream) {
        wantStream(stream);
        return now.sent.get(stream);
    }

    public int error(int device, int k, int part) {
        wantDevice(device);
        wantWithin(part, 1);
        List<int[]> errors = now.errors.get(device);
        return k < 0 || k >= errors.size() ? NONE : errors.get(errors.size() - 1 - k)[part];
    }

    public int cause(int k, int part) {
        wantWithin(part, 2);
        List<String> couples = new ArrayList<>(now.causes.keySet());
        if (k < 0 || k >= couples.size()) {
            return NONE;
        }
        String[] couple = couples.get(k).split(" ");
        return part == 2 ? now.causes.get(couples.get(k)) : Integer.parseInt(couple[part]);
    }

    private List<int[]> with(int device, int kind) {
        List<int[]> errors = new ArrayList<>(now.errors.get(device));
        errors.add(new int[] {kind, now.time});
        if (errors.size() > 12) {
            errors.remove(0);
        }
        return errors;
    }

    public int scoreWith(int device, int kind) {
        wantDevice(device);
        wantWithin(kind, 3);
        return now.ports.containsKey(device) ? scoreOf(with(device, kind)) : NONE;
    }

    public int feared(int device) {
        wantDevice(device);
        for (int kind = 0; kind < 4; kind++) {
            if (calm(device) && scoreOf(with(device, kind)) >= now.score) {
                return kind;
            }
        }
        return NONE;
    }

    /** Lets each stream of the device go on as an ending one until its packet is sent. */
    public int framesToClear(int device) {
        wantDevice(device);
        int most = 0;
        for (int s : heldBy(device)) {
            int done = now.done.get(s);
            int frames = 0;
            while (done > 0) {
                frames++;
                done += Math.min(text.streams.get(s).rate, text.streams.get(s).packet - done);
                done = done == text.streams.get(s).packet ? 0 : done;
            }
            most = Math.max(most, frames);
        }
        return most;
    }

    public int atStake(int device) {
        wantDevice(device);
        return heldBy(device).stream().mapToInt(s -> now.done.get(s)).sum();
    }

    public int weakest() {
        int best = NONE;
        for (int d = text.devices.size() - 1; d >= 0; d--) {
            if (now.ports.containsKey(d)
                    && (best == NONE || scoreOf(now.errors.get(d)) >= scoreOf(now.errors.get(best)))) {
                best = d;
            }
        }
        return best;
    }

    public int whyNotRunning(int stream) {
        wantStream(stream);
        int mode = stream(stream, 0);
        int home = text.streams.get(stream).home;
        int heir = text.devices.get(home).heir;
        if (mode == 1) {
            return 0;
        }
        if (!calm(home) && heir == NONE) {
            return 1;
        }
        if (!calm(home) && !calm(heir)) {
            return 2;
        }
        return mode == 0 ? 3 : 4;
    }

    public int event(int k, int part) {
        wantWithin(part, 2);
        return k < 0 || k >= Math.min(24, now.events.size()) ? NONE : now.events.get(now.events.size() - 1 - k)[part];
    }

    private int count(int kind) {
        return (int) now.events.stream().filter(e -> e[0] == kind).count();
    }

    public int account(int what) {
        wantWithin(what, 9);
        if (what < 8) {
            return count(what);
        }
        return what == 8 ? now.lost : now.causes.values().stream().mapToInt(x -> x).sum();
    }

    public double rightShare() {
        int over = count(1) + count(2);
        return over == 0 ? 0.0 : (double) count(2) / (double) over;
    }

    // ---- changes

    private void tell(int kind, int item) {
        now.events.add(new int[] {kind, item, now.time});
    }

    private void settle() {
        for (int s = 0; s < text.streams.size(); s++) {
            int holder = now.holders.get(s);
            int wanted = wanted(s);
            if (holder == NONE) {
                continue;
            }
            now.ending.set(s, holder != wanted);
            if (holder != wanted && now.done.get(s) == 0) {
                now.holders.set(s, wanted);
                now.ending.set(s, false);
                tell(wanted == NONE ? 5 : 4, s);
            }
        }
        for (int s = 0; s < text.streams.size(); s++) {
            if (now.holders.get(s) == NONE && wanted(s) != NONE
                    && text.streams.get(s).rate <= text.whole - reserved()) {
                now.holders.set(s, wanted(s));
                now.ending.set(s, false);
                tell(6, s);
            }
        }
    }

    private void keep() {
        past.add(now.copy());
        if (past.size() > 10) {
            past.remove(0);
        }
    }

    public int frames(int frames) {
        if (frames < 1 || frames > 200) {
            throw new IllegalArgumentException();
        }
        keep();
        for (int f = 0; f < frames; f++) {
            frame();
        }
        return reserved();
    }

    /** A unit at a time. */
    private void frame() {
        now.time++;
        for (int s = 0; s < text.streams.size(); s++) {
            boolean over = now.holders.get(s) == NONE;
            for (int unit = 0; unit < text.streams.get(s).rate && !over; unit++) {
                now.done.set(s, now.done.get(s) + 1);
                if (now.done.get(s) == text.streams.get(s).packet) {
                    now.done.set(s, 0);
                    now.sent.set(s, now.sent.get(s) + 1);
                    over = now.ending.get(s);
                }
            }
        }
        for (int d = 0; d < text.devices.size(); d++) {
            if (now.alarms.containsKey(d)) {
                List<int[]> errors = now.errors.get(d);
                int latest = now.alarms.get(d);
                for (int[] e : errors) {
                    latest = Math.max(latest, e[1]);
                }
                if (now.time - latest >= text.grace) {
                    endWrong(d);
                }
            }
        }
        settle();
    }

    private void endWrong(int device) {
        now.alarms.remove(device);
        now.errors.get(device).clear();
        tell(1, device);
    }

    public int fail(int device, int kind) {
        wantDevice(device);
        wantWithin(kind, 3);
        if (!now.ports.containsKey(device)) {
            throw new IllegalStateException();
        }
        keep();
        now.errors.set(device, with(device, kind));
        now.causes.merge(device + " " + kind, 1, Integer::sum);
        if (!now.alarms.containsKey(device) && scoreOf(now.errors.get(device)) >= now.score) {
            now.alarms.put(device, now.time);
            tell(0, device);
            settle();
        }
        return scoreOf(now.errors.get(device));
    }

    public int warn(int device) {
        wantDevice(device);
        if (!calm(device)) {
            throw new IllegalStateException();
        }
        keep();
        int clear = framesToClear(device);
        now.alarms.put(device, now.time);
        tell(0, device);
        settle();
        return clear;
    }

    public int callOff(int device) {
        wantDevice(device);
        if (!now.alarms.containsKey(device)) {
            throw new IllegalStateException();
        }
        keep();
        endWrong(device);
        settle();
        return heldBy(device).size();
    }

    public int unplug(int device) {
        wantDevice(device);
        if (!now.ports.containsKey(device)) {
            throw new IllegalStateException();
        }
        keep();
        int lost = atStake(device);
        tell(now.alarms.containsKey(device) ? 2 : 3, device);
        now.alarms.remove(device);
        now.ports.remove(device);
        now.errors.get(device).clear();
        for (int s : heldBy(device)) {
            if (now.done.get(s) > 0) {
                tell(7, s);
            }
            now.done.set(s, 0);
            now.holders.set(s, NONE);
        }
        now.lost += lost;
        settle();
        return lost;
    }

    public int plug(int device, int port) {
        wantDevice(device);
        if (port < 0 || port >= text.ports) {
            throw new IndexOutOfBoundsException();
        }
        if (now.ports.containsKey(device) || now.ports.containsValue(port)) {
            throw new IllegalStateException();
        }
        keep();
        now.ports.put(device, port);
        settle();
        return heldBy(device).size();
    }

    public int setScore(int score) {
        if (score < 1 || score > 999) {
            throw new IllegalArgumentException();
        }
        keep();
        int before = now.score;
        now.score = score;
        return before;
    }

    public int undo() {
        if (past.isEmpty()) {
            return NONE;
        }
        now = past.remove(past.size() - 1);
        return past.size();
    }

    public boolean saveSnapshot(int slot) {
        if (slot < 0 || slot > 1) {
            return false;
        }
        slots[slot] = now.copy();
        return true;
    }

    public boolean restoreSnapshot(int slot) {
        if (slot < 0 || slot > 1 || slots[slot] == null) {
            return false;
        }
        now = slots[slot].copy();
        past.clear();
        return true;
    }
}
