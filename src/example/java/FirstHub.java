/** From an empty buffer to a hub and its answers: an unplugging that is foreseen, and so tears no packet. */
public final class FirstHub {
    public static void main(String[] arguments) {
        ForesightHub hub = new ForesightHub();

        // A text that is wrong: the port 2, at byte 18, is out of the range of two ports (kind 4).
        int fault = -2 - parse(hub, "hub 20 2;device a 2;");
        show("the wrong text's byte", fault / 8);
        show("the wrong text's kind", fault % 8);

        // Twenty units a frame and two ports; two errors crc within ten frames weigh 12, and 10 begin an alarm.
        show("parse", parse(hub, "hub 20 2; pattern storm 12 10 crc crc;\n"
                + "device a 0; device b 1 heir a; stream s b 5 8;"));
        show("frames(1)", hub.frames(1));              // what is reserved
        show("stream(0, 5)", hub.stream(0, 5));        // units that are done of the packet of eight
        show("fail(1, 0)", hub.fail(1, 0));            // the score of b behind a first crc
        show("feared(1)", hub.feared(1));              // one crc more, and an alarm begins
        show("fail(1, 0)", hub.fail(1, 0));            // so it does
        show("whyNotRunning(0)", hub.whyNotRunning(0)); // s is ending at b
        show("framesToClear(1)", hub.framesToClear(1));
        show("frames(1)", hub.frames(1));
        show("packets(0)", hub.packets(0));            // the packet was sent whole
        show("stream(0, 1)", hub.stream(0, 1));        // and s was handed over to a, the heir of b
        show("unplug(1)", hub.unplug(1));              // the units that were lost
        show("rightShare()", hub.rightShare());        // the alarm was a right one
        show("undo()", hub.undo());                    // b is plugged in again; four changes are left to undo
        show("deviceAt(1)", hub.deviceAt(1));

        try {
            hub.plug(1, 0);
        } catch (IllegalStateException refused) {      // b is plugged in already; nothing was changed
            show("size(9)", hub.size(9));
        }
    }

    /** Appends the text, twenty bytes a call and zero bytes behind its end, and parses the text without these. */
    private static int parse(ForesightHub hub, String text) {
        for (int from = 0; from < text.length(); from += 20) {
            hub.append(four(text, from), four(text, from + 4), four(text, from + 8),
                    four(text, from + 12), four(text, from + 16));
        }
        return hub.parse(text.length());
    }

    private static int four(String text, int from) {
        int bytes = 0;
        for (int i = from; i < from + 4; i++) {
            bytes = bytes << 8 | (i < text.length() ? text.charAt(i) & 255 : 0);
        }
        return bytes;
    }

    private static void show(String call, Object answer) {
        System.out.println(call + " = " + answer);
    }
}
