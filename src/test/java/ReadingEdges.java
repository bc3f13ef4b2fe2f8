/** Promises 4 to 8: what is read of a hub. */
final class ReadingEdges extends Edges {
    ReadingEdges(Checks checks, Sentences sentences) {
        super(checks, sentences);
    }

    @Override
    void run() {
        size();
        sizeReserved();
        deviceAt();
        device();
        devicePort();
        deviceHeir();
        deviceAlarmAndScore();
        deviceErrors();
        deviceStreams();
        stream();
        streamWay();
        streamHolder();
        streamUnits();
        packets();
        fullHub();
        noSuchDevice();
    }

    private void size() {
        at(4, "`what`: 0 patterns, 1 devices, 2 streams, 3 whole, 4 ports, 5 the time,",
                "7 the score of the alarm, 8 grace, 9 changes that can be undone", "Returns the number.");
        int[] fresh = {0, 0, 0, 1, 1, 0, 0, 10, 5, 0};
        int[] least = {1, 2, 3, 9, 4, 0, 6, 7, 8, 0};
        ForesightHub x = new ForesightHub();
        ForesightHub y = hub("hub 9 4;pattern p 1 1 crc;device a 0;device b 1;stream s a 1 1;stream t b 2 1;"
                + "stream u b 3 1;alarm 7 8;");
        for (int what = 0; what <= 9; what++) {
            sizeIs(x, what, fresh[what]);
            sizeIs(y, what, least[what]);
        }
        y.frames(11);
        y.setScore(13);
        y.unplug(0);
        int[] then = {1, 2, 3, 9, 4, 11, 5, 13, 8, 3};
        for (int what = 0; what <= 9; what++) {
            sizeIs(y, what, then[what]);
        }
        at(4, "Throws `IllegalArgumentException` if what is out of range");
        for (int what : new int[] {-1, 10, 11, MIN, MAX}) {
            refused("size(" + what + ")", ARGUMENT, h -> h.size(what));
        }
    }

    private void sizeReserved() {
        at(4, "6 what is reserved,");
        sizeIs(hub("hub 9 1;"), 6, 0);
        sizeIs(hub("hub 9 1;device a 0;"), 6, 0);
        ForesightHub x = hub("hub 9 1;device a 0;stream s a 9 2;stream t a 1 1;");
        sizeIs(x, 6, 9);
        x.frames(1);
        x.warn(0);
        // an ending stream is held
        sizeIs(x, 6, 9);
        x.frames(1);
        sizeIs(x, 6, 0);
    }

    private void deviceAt() {
        at(5, "`port`: a port", "Returns the device that is plugged in there; NONE if there is none.");
        ForesightHub x = hub("hub 9 3;device a 2;device b 0;");
        due("deviceAt(0)", x.deviceAt(0), 1);
        due("deviceAt(1)", x.deviceAt(1), -1);
        due("deviceAt(2)", x.deviceAt(2), 0);
        x.unplug(0);
        due("deviceAt(2)", x.deviceAt(2), -1);
        x.plug(0, 1);
        due("deviceAt(1)", x.deviceAt(1), 0);
        due("deviceAt(2)", x.deviceAt(2), -1);
        due("deviceAt(0) of a new object", new ForesightHub().deviceAt(0), -1);
        at(5, "Throws `IndexOutOfBoundsException` if there is no such port");
        for (int port : new int[] {-1, 4, 7, 8, MIN, MAX}) {
            refused("deviceAt(" + port + ")", INDEX, h -> h.deviceAt(port));
        }
        due("deviceAt(3) of four ports", busy.get().deviceAt(3), -1);
    }

    private void device() {
        at(6, "`device`: a device", "Returns the property.");
        ForesightHub x = hub(TextPromisesTest.TEXT);
        int[][] want = {{0, -1, 0, 0, 0, 0, 4, 10}, {1, 0, 0, 0, 0, 0, 3, 9}, {3, 1, 0, 0, 0, 0, 0, 0}};
        for (int device = 0; device <= 2; device++) {
            for (int what = 0; what <= 7; what++) {
                deviceIs(x, device, what, want[device][what]);
            }
        }
        at(6, "Throws `IndexOutOfBoundsException` if there is no such device (checked first)");
        for (int device : new int[] {-1, 3, 8, MIN, MAX}) {
            for (int what : new int[] {-1, 0, 7, 8}) {
                refused("device(" + device + ", " + what + ")", INDEX, h -> h.device(device, what));
            }
        }
        at(6, "Throws `IllegalArgumentException` if what is out of range");
        for (int what : new int[] {-1, 8, 9, MIN, MAX}) {
            for (int device = 0; device <= 2; device++) {
                int one = device;
                refused("device(" + device + ", " + what + ")", ARGUMENT, h -> h.device(one, what));
            }
        }
    }

    private void devicePort() {
        at(6, "`what`: 0 its port (NONE if it is not plugged in),");
        ForesightHub x = hub("hub 9 8;device a 7;device b 0;");
        deviceIs(x, 0, 0, 7);
        deviceIs(x, 1, 0, 0);
        x.unplug(1);
        deviceIs(x, 1, 0, -1);
        deviceIs(x, 0, 0, 7);
        x.unplug(0);
        deviceIs(x, 0, 0, -1);
        x.plug(1, 7);
        deviceIs(x, 1, 0, 7);
        x.plug(0, 0);
        deviceIs(x, 0, 0, 0);
    }

    private void deviceHeir() {
        at(6, "1 its heir (NONE without one),");
        ForesightHub x = hub("hub 9 8;device a 0;device b 1 heir a;device c 2;device d 3 heir c;");
        int[] heirs = {-1, 0, -1, 2};
        for (int device = 0; device <= 3; device++) {
            deviceIs(x, device, 1, heirs[device]);
        }
        // the heir is the one of the text, plugged in or not
        x.unplug(0);
        x.unplug(1);
        deviceIs(x, 1, 1, 0);
        // an heir of an earlier text is gone
        due("parse", Checks.parse(x, "hub 9 8;device a 0;device b 1;"), 0);
        deviceIs(x, 1, 1, -1);
    }

    private void deviceAlarmAndScore() {
        at(6, "2 1 if it is in alarm, otherwise 0, 3 its score, 4 the patterns that match it as bits,");
        ForesightHub x = hub("hub 9 2;pattern p 3 9 crc;pattern q 5 2 stall;pattern r 7 9 crc stall;pattern s 11 9 power;"
                + "pattern t 13 9 power power;pattern u 17 9 jitter;device a 0;device b 1;alarm 28 99;");
        int[] kinds = {0, 1, 2, 3};
        int[] bits = {1, 7, 39, 47};
        int[] scores = {3, 15, 32, 43};
        for (int i = 0; i < 4; i++) {
            due("fail", x.fail(1, kinds[i]), scores[i]);
            deviceIs(x, 1, 2, scores[i] >= 28 ? 1 : 0);
            deviceIs(x, 1, 3, scores[i]);
            deviceIs(x, 1, 4, bits[i]);
            deviceIs(x, 0, 2, 0);
            deviceIs(x, 0, 3, 0);
            deviceIs(x, 0, 4, 0);
        }
        x.frames(2);
        deviceIs(x, 1, 2, 1);
        deviceIs(x, 1, 3, 38);
        deviceIs(x, 1, 4, 45);
        x.unplug(1);
        deviceIs(x, 1, 2, 0);
        deviceIs(x, 1, 3, 0);
        deviceIs(x, 1, 4, 0);
    }

    private void deviceErrors() {
        at(6, "5 its kept errors,");
        ForesightHub x = hub("hub 9 2;device a 0;device b 1;");
        for (int count = 1; count <= 14; count++) {
            x.fail(0, 1);
            deviceIs(x, 0, 5, Math.min(12, count));
            deviceIs(x, 1, 5, 0);
        }
        x.unplug(0);
        deviceIs(x, 0, 5, 0);
    }

    private void deviceStreams() {
        at(6, "6 the streams that it holds as bits, 7 what is reserved for these");
        StringBuilder text = new StringBuilder("hub 999 2;device a 0;device b 1 heir a;");
        for (int i = 0; i < 12; i++) {
            text.append("stream ").append((char) ('a' + i)).append(i % 2 == 0 ? " a " : " b ").append(i + 1).append(" 1;");
        }
        ForesightHub x = hub(text.toString());
        deviceIs(x, 0, 6, 0b010101010101);
        deviceIs(x, 1, 6, 0b101010101010);
        deviceIs(x, 0, 7, 36);
        deviceIs(x, 1, 7, 42);
        x.warn(1);
        deviceIs(x, 0, 6, 4095);
        deviceIs(x, 1, 6, 0);
        deviceIs(x, 0, 7, 78);
        deviceIs(x, 1, 7, 0);
        x.warn(0);
        deviceIs(x, 0, 6, 0);
        deviceIs(x, 0, 7, 0);
        // an ending stream is held as well
        ForesightHub y = hub("hub 9 2;device a 0;device b 1 heir a;stream s b 4 9;stream t b 6 9;");
        y.frames(1);
        y.warn(1);
        deviceIs(y, 1, 6, 1);
        deviceIs(y, 1, 7, 4);
        deviceIs(y, 0, 6, 0);
    }

    private void stream() {
        at(7, "`stream`: a stream", "Returns the property.");
        ForesightHub x = hub(TextPromisesTest.TEXT);
        int[][] want = {{1, 1, 1, 5, 8, 0, 1}, {1, 1, 1, 4, 4, 0, 1}, {1, 0, 0, 10, 7, 0, 0}, {0, -1, 2, 2, 50, 0, 2}};
        for (int stream = 0; stream <= 3; stream++) {
            for (int what = 0; what <= 6; what++) {
                streamIs(x, stream, what, want[stream][what]);
            }
        }
        at(7, "Throws `IndexOutOfBoundsException` if there is no such stream (checked first)");
        for (int stream : new int[] {-1, 4, 12, MIN, MAX}) {
            for (int what : new int[] {-1, 0, 6, 7}) {
                refused("stream(" + stream + ", " + what + ")", INDEX, h -> h.stream(stream, what));
            }
        }
        at(7, "Throws `IllegalArgumentException` if what is out of range");
        for (int what : new int[] {-1, 7, 8, MIN, MAX}) {
            for (int stream = 0; stream <= 3; stream++) {
                int one = stream;
                refused("stream(" + stream + ", " + what + ")", ARGUMENT, h -> h.stream(one, what));
            }
        }
    }

    private void streamWay() {
        at(7, "`what`: 0 0 if it is waiting, 1 running, 2 ending,");
        ForesightHub x = hub("hub 9 2;device a 0;device b 1 heir a;stream s b 4 9;stream t b 6 9;alarm 9 2;");
        streamIs(x, 0, 0, 1);
        streamIs(x, 1, 0, 0);
        x.frames(1);
        x.warn(1);
        streamIs(x, 0, 0, 2);
        x.unplug(0);
        streamIs(x, 0, 0, 2);
        x.frames(1);
        streamIs(x, 0, 0, 2);
        x.frames(1);
        // the alarm is over with the packet
        streamIs(x, 0, 0, 1);
        x.unplug(1);
        streamIs(x, 0, 0, 0);
    }

    private void streamHolder() {
        at(7, "1 its holder (NONE if it waits), 2 its wanted holder (NONE without one),");
        ForesightHub x = hub("hub 9 2;device a 0;device b 1 heir a;stream s b 4 9;stream t b 6 9;alarm 9 99;");
        streamIs(x, 0, 1, 1);
        streamIs(x, 0, 2, 1);
        streamIs(x, 1, 1, -1);
        streamIs(x, 1, 2, 1);
        x.frames(1);
        x.warn(1);
        streamIs(x, 0, 1, 1);
        streamIs(x, 0, 2, 0);
        streamIs(x, 1, 2, 0);
        x.warn(0);
        streamIs(x, 0, 1, 1);
        streamIs(x, 0, 2, -1);
        streamIs(x, 1, 1, -1);
        streamIs(x, 1, 2, -1);
    }

    private void streamUnits() {
        at(7, "3 its rate, 4 the size of its packets, 5 the units that are done of the packet that is begun, 6 its home");
        ForesightHub x = hub("hub 999 2;device a 0;device b 1;stream s b 999 9999;stream t a 1 1;");
        int[][] want = {{999, 9999, 0, 1}, {1, 1, 0, 0}};
        for (int stream = 0; stream <= 1; stream++) {
            for (int what = 3; what <= 6; what++) {
                streamIs(x, stream, what, want[stream][what - 3]);
            }
        }
        x.frames(10);
        streamIs(x, 0, 5, 9990);
        x.frames(1);
        streamIs(x, 0, 5, 990);
        x.unplug(1);
        streamIs(x, 0, 5, 0);
        streamIs(x, 0, 6, 1);
    }

    private void packets() {
        at(8, "`stream`: a stream", "Returns the packets of it that were sent.");
        ForesightHub x = hub("hub 999 2;device a 0;device b 1;stream s b 998 998;stream t a 1 2;");
        due("packets(0)", x.packets(0), 0L);
        x.frames(1);
        due("packets(0)", x.packets(0), 1L);
        due("packets(1)", x.packets(1), 0L);
        x.frames(1);
        due("packets(1)", x.packets(1), 1L);
        // what is torn was not sent, and what was sent stays so
        x.frames(1);
        x.unplug(0);
        due("packets(1)", x.packets(1), 1L);
        x.undo();
        x.undo();
        due("packets(0) behind undo()", x.packets(0), 2L);
        at(8, "Throws `IndexOutOfBoundsException` if there is no such stream");
        for (int stream : new int[] {-1, 4, 12, MIN, MAX}) {
            refused("packets(" + stream + ")", INDEX, h -> h.packets(stream));
        }
    }

    /** As much of everything as there may be: each last one of a row is asked for, and what comes behind it is none. */
    private void fullHub() {
        at(4, "Returns the number.");
        StringBuilder text = new StringBuilder("hub 999 8;");
        for (int i = 0; i < 6; i++) {
            text.append("pattern ").append((char) ('a' + i)).append(" 9 9 crc crc crc crc crc;");
        }
        for (int i = 0; i < 8; i++) {
            text.append("device ").append((char) ('a' + i)).append(' ').append(7 - i).append(i > 0 ? " heir a;" : ";");
        }
        for (int i = 0; i < 12; i++) {
            text.append("stream ").append((char) ('a' + i)).append(" h 9 ").append(10 + i).append(';');
        }
        ForesightHub x = hub(text.toString());
        int[] sizes = {6, 8, 12, 999, 8, 0, 108, 10, 5, 0};
        for (int what = 0; what <= 9; what++) {
            sizeIs(x, what, sizes[what]);
        }
        for (int i = 0; i < 8; i++) {
            due("deviceAt(" + i + ")", x.deviceAt(i), 7 - i);
            deviceIs(x, i, 0, 7 - i);
            deviceIs(x, i, 6, i == 7 ? 4095 : 0);
            due("framesToClear(" + i + ")", x.framesToClear(i), 0);
        }
        x.frames(1);
        due("framesToClear(7), 12 by 9 the most", x.framesToClear(7), 2);
        due("atStake(7)", x.atStake(7), 108);
        for (int i = 0; i < 7; i++) {
            due("framesToClear(" + i + ")", x.framesToClear(i), 0);
            due("atStake(" + i + ")", x.atStake(i), 0);
        }
        for (int i = 0; i < 12; i++) {
            streamIs(x, i, 4, 10 + i);
            goes(x, i, 1, 7, 9, 0);
        }
        for (int i = 7; i >= 0; i--) {
            x.unplug(i);
            due("deviceAt(" + (7 - i) + ")", x.deviceAt(7 - i), -1);
            due("weakest()", x.weakest(), i > 0 ? 0 : -1);
        }
        for (int i = 0; i < 8; i++) {
            due("plug(" + i + ", " + i + ")", x.plug(i, i), i == 0 || i == 7 ? 12 : 0);
        }
        c.thrown(x, "device(8, 0)", INDEX, () -> x.device(8, 0));
        c.thrown(x, "stream(12, 0)", INDEX, () -> x.stream(12, 0));
        c.thrown(x, "packets(12)", INDEX, () -> x.packets(12));
        c.thrown(x, "whyNotRunning(12)", INDEX, () -> x.whyNotRunning(12));
        c.thrown(x, "deviceAt(8)", INDEX, () -> x.deviceAt(8));
        c.thrown(x, "plug(0, 8)", INDEX, () -> x.plug(0, 8));
    }

    /** The numbers of an earlier text's devices, streams and ports are none of a later one's. */
    private void noSuchDevice() {
        at(6, "Throws `IndexOutOfBoundsException` if there is no such device");
        ForesightHub x = hub(TextPromisesTest.TEXT);
        due("parse", Checks.parse(x, "hub 9 2;device a 0;stream s a 1 1;"), 1);
        c.thrown(x, "device(1, 0)", INDEX, () -> x.device(1, 0));
        c.thrown(x, "stream(1, 0)", INDEX, () -> x.stream(1, 0));
        c.thrown(x, "packets(1)", INDEX, () -> x.packets(1));
        c.thrown(x, "deviceAt(2)", INDEX, () -> x.deviceAt(2));
        c.thrown(x, "warn(1)", INDEX, () -> x.warn(1));
        c.thrown(x, "plug(0, 2)", INDEX, () -> x.plug(0, 2));
    }
}
