import java.util.ArrayList;
import java.util.List;

/** Counts the answers that are not due, and knows how to give a text to a hub and how to read all of a hub. */
final class Checks {
    private int wrong = 0;
    private int made = 0;
    private String where = "";

    void at(String place) {
        where = place;
    }

    void due(String call, Object got, Object want) {
        made++;
        if (!got.equals(want)) {
            wrong++;
            if (wrong <= 40) {
                System.out.println(where + ": " + call + " answered " + got + ", due is " + want);
            }
        }
    }

    /** The call throws just this exception, and nothing that can be asked for is changed by it. */
    void thrown(ForesightHub hub, String call, Class<? extends Exception> want, Runnable run) {
        List<String> before = allOf(hub);
        Object got = "nothing";
        try {
            run.run();
        } catch (RuntimeException e) {
            got = e.getClass();
        }
        due(call + " throws", got, want);
        unchanged(call, hub, before);
    }

    void unchanged(String call, ForesightHub hub, List<String> before) {
        due("all that can be asked for, behind " + call, allOf(hub), before);
    }

    void end() {
        System.out.println(made + " answers looked at, " + wrong + " not as due");
        if (wrong > 0) {
            System.exit(1);
        }
    }

    /** Appends the text, filled up with zero bytes, which parse must not look at. */
    static int append(ForesightHub hub, String text) {
        int length = ForesightHub.NONE;
        for (int from = 0; from < text.length(); from += 20) {
            length = hub.append(four(text, from), four(text, from + 4), four(text, from + 8),
                    four(text, from + 12), four(text, from + 16));
        }
        return length;
    }

    private static int four(String text, int from) {
        int bytes = 0;
        for (int i = from; i < from + 4; i++) {
            bytes = bytes << 8 | (i < text.length() ? text.charAt(i) & 255 : 0);
        }
        return bytes;
    }

    static int parse(ForesightHub hub, String text) {
        append(hub, text);
        return hub.parse(text.length());
    }

    static ForesightHub hub(String text) {
        ForesightHub hub = new ForesightHub();
        int answer = parse(hub, text);
        if (answer < 0) {
            throw new IllegalStateException("the test's own text is wrong, " + answer + ": " + text);
        }
        return hub;
    }

    static int fault(int offset, int kind) {
        return -2 - (8 * offset + kind);
    }

    /** Every answer that a hub gives without being changed. */
    static List<String> allOf(ForesightHub hub) {
        List<String> all = new ArrayList<>();
        for (int what = 0; what <= 9; what++) {
            all.add("size " + what + " = " + hub.size(what));
        }
        for (int port = 0; port < hub.size(4); port++) {
            all.add("deviceAt " + port + " = " + hub.deviceAt(port));
        }
        for (int device = 0; device < hub.size(1); device++) {
            addDevice(all, hub, device);
        }
        for (int stream = 0; stream < hub.size(2); stream++) {
            for (int what = 0; what <= 6; what++) {
                all.add("stream " + stream + " " + what + " = " + hub.stream(stream, what));
            }
            all.add("packets " + stream + " = " + hub.packets(stream));
            all.add("whyNotRunning " + stream + " = " + hub.whyNotRunning(stream));
        }
        for (int part = 0; part <= 2; part++) {
            for (int k = -1; k <= 33; k++) {
                all.add("cause " + k + " " + part + " = " + hub.cause(k, part));
            }
            for (int k = -1; k <= 25; k++) {
                all.add("event " + k + " " + part + " = " + hub.event(k, part));
            }
        }
        for (int what = 0; what <= 9; what++) {
            all.add("account " + what + " = " + hub.account(what));
        }
        all.add("weakest = " + hub.weakest());
        all.add("rightShare = " + hub.rightShare());
        return all;
    }

    private static void addDevice(List<String> all, ForesightHub hub, int device) {
        for (int what = 0; what <= 7; what++) {
            all.add("device " + device + " " + what + " = " + hub.device(device, what));
        }
        for (int k = -1; k <= 13; k++) {
            all.add("error " + device + " " + k + " = " + hub.error(device, k, 0) + " at " + hub.error(device, k, 1));
        }
        for (int kind = 0; kind <= 3; kind++) {
            all.add("scoreWith " + device + " " + kind + " = " + hub.scoreWith(device, kind));
        }
        all.add("feared " + device + " = " + hub.feared(device));
        all.add("framesToClear " + device + " = " + hub.framesToClear(device));
        all.add("atStake " + device + " = " + hub.atStake(device));
    }
}
