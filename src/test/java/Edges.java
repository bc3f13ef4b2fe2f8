import java.util.ArrayList;
import java.util.Arrays;
import java.util.HashMap;
import java.util.List;
import java.util.Map;
import java.util.function.Consumer;
import java.util.function.Function;
import java.util.function.Supplier;

/** What the parts of EdgesTest share: the sentence that a test is about, refused calls, and short ways to ask. */
abstract class Edges {
    static final Class<IllegalArgumentException> ARGUMENT = IllegalArgumentException.class;
    static final Class<IndexOutOfBoundsException> INDEX = IndexOutOfBoundsException.class;
    static final Class<IllegalStateException> STATE = IllegalStateException.class;
    static final int MAX = Integer.MAX_VALUE;
    static final int MIN = Integer.MIN_VALUE;

    final Checks c;
    private final Sentences sentences;
    private final Map<Supplier<ForesightHub>, List<String>> untouched = new HashMap<>();
    final Supplier<ForesightHub> busy = Edges::busyHub;

    Edges(Checks checks, Sentences sentences) {
        c = checks;
        this.sentences = sentences;
    }

    abstract void run();

    /** Names the sentences that the next answers are about, as they stand in the section of the document. */
    void at(String section, String... quotes) {
        c.at(section + ": \"" + quotes[0] + "\"");
        for (String quote : quotes) {
            c.due("the document has \"" + quote + "\"", sentences.quote(section, quote), true);
        }
    }

    void at(int promise, String... quotes) {
        at("" + promise, quotes);
    }

    void due(String call, Object got, Object want) {
        c.due(call, got, want);
    }

    /**
     * A hub with something of everything: of its devices a is calm, b in alarm, c not plugged in; a stream is running,
     * one ending, one waiting; a syntax error lies behind it; 8 changes can be undone, both slots are full, and a text
     * of twenty bytes is in the buffer.
     */
    private static ForesightHub busyHub() {
        ForesightHub x = Checks.hub(TextPromisesTest.TEXT);
        x.frames(1);
        x.fail(0, 2);
        x.saveSnapshot(1);
        Checks.parse(x, "hub 0 1;");
        x.fail(1, 0);
        x.fail(1, 0);
        x.unplug(2);
        x.saveSnapshot(0);
        x.setScore(9);
        x.frames(1);
        x.fail(0, 3);
        Checks.append(x, "hub 7 3;device q 1; ");
        return x;
    }

    /**
     * All that can be asked for, now and by going on: behind each undo, behind each slot's return, and of the text in
     * the buffer. The hub is used up by it.
     */
    static List<String> deepOf(ForesightHub hub) {
        List<String> all = new ArrayList<>(Checks.allOf(hub));
        for (int left = 0; left <= 11; left++) {
            all.add("undo = " + hub.undo());
            all.addAll(Checks.allOf(hub));
        }
        for (int slot = 0; slot <= 1; slot++) {
            all.add("restoreSnapshot " + slot + " = " + hub.restoreSnapshot(slot));
            all.addAll(Checks.allOf(hub));
        }
        int length = hub.append(0, 0, 0, 0, 0);
        all.add("append = " + length);
        all.add("parse = " + hub.parse(length == ForesightHub.NONE ? 600 : length - 20));
        all.addAll(Checks.allOf(hub));
        return all;
    }

    /** The call throws just this exception, and the hub goes on as one that was not called so. */
    void refused(Supplier<ForesightHub> hub, String call, Class<? extends Exception> want,
            Consumer<ForesightHub> run) {
        ForesightHub x = hub.get();
        Object got = "nothing";
        try {
            run.accept(x);
        } catch (RuntimeException e) {
            got = e.getClass();
        }
        due(call + " throws", got, want);
        due("all that can be asked for behind " + call, deepOf(x), untouched(hub));
    }

    void refused(String call, Class<? extends Exception> want, Consumer<ForesightHub> run) {
        refused(busy, call, want, run);
    }

    /** The call answers so, and the hub goes on as one that was not called so. */
    void idle(Supplier<ForesightHub> hub, String call, Object want, Function<ForesightHub, Object> run) {
        ForesightHub x = hub.get();
        due(call, run.apply(x), want);
        due("all that can be asked for behind " + call, deepOf(x), untouched(hub));
    }

    private List<String> untouched(Supplier<ForesightHub> hub) {
        return untouched.computeIfAbsent(hub, key -> deepOf(key.get()));
    }

    /** A syntax error, behind which everything but the buffer is as it was. */
    void fault(String text, int offset, int kind) {
        ForesightHub x = Checks.hub("hub 9 2;pattern p 5 9 crc;device a 1;stream s a 4 9;alarm 7 3;");
        x.frames(1);
        List<String> before = Checks.allOf(x);
        due("parse \"" + text + "\"", Checks.parse(x, text), Checks.fault(offset, kind));
        due("all that can be asked for behind \"" + text + "\"", Checks.allOf(x), before);
    }

    ForesightHub good(String text, int streams) {
        ForesightHub x = new ForesightHub();
        due("parse \"" + text + "\"", Checks.parse(x, text), streams);
        return x;
    }

    static ForesightHub hub(String text) {
        return Checks.hub(text);
    }

    void sizeIs(ForesightHub x, int what, int want) {
        due("size(" + what + ")", x.size(what), want);
    }

    void deviceIs(ForesightHub x, int device, int what, int want) {
        due("device(" + device + ", " + what + ")", x.device(device, what), want);
    }

    void streamIs(ForesightHub x, int stream, int what, int want) {
        due("stream(" + stream + ", " + what + ")", x.stream(stream, what), want);
    }

    /** The stream's way (0 waiting, 1 running, 2 ending), its holder, the units that are done, the packets sent. */
    void goes(ForesightHub x, int stream, int way, int holder, int done, long sent) {
        String got = x.stream(stream, 0) + " " + x.stream(stream, 1) + " " + x.stream(stream, 5) + " "
                + x.packets(stream);
        due("stream " + stream + " at " + x.size(5), got, way + " " + holder + " " + done + " " + sent);
    }

    /** The latest events, the earliest of them first, each as its kind, its device or stream, and its time. */
    void eventsAre(ForesightHub x, int[]... want) {
        StringBuilder got = new StringBuilder();
        StringBuilder due = new StringBuilder();
        for (int i = 0; i < want.length; i++) {
            int k = want.length - 1 - i;
            got.append(x.event(k, 0)).append(' ').append(x.event(k, 1)).append(' ').append(x.event(k, 2)).append("; ");
            due.append(want[i][0]).append(' ').append(want[i][1]).append(' ').append(want[i][2]).append("; ");
        }
        due("the latest events", got.toString(), due.toString());
    }

    /** Just these events are kept, and no others. */
    void logIs(ForesightHub x, int[]... want) {
        eventsAre(x, want);
        due("event(" + want.length + ", 0)", x.event(want.length, 0), ForesightHub.NONE);
    }

    static int[] e(int kind, int item, int time) {
        return new int[] {kind, item, time};
    }

    void accountsAre(ForesightHub x, int... want) {
        int[] got = new int[want.length];
        for (int what = 0; what < want.length; what++) {
            got[what] = x.account(what);
        }
        due("the accounts", Arrays.toString(got), Arrays.toString(want));
    }
}
