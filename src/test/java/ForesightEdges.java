import java.util.function.BiConsumer;

/** Promises 9 to 19: errors and foresight. */
final class ForesightEdges extends Edges {
    private static final String NO_DEVICE = "Throws `IndexOutOfBoundsException` if there is no such device";
    private static final String NO_DEVICE_FIRST = NO_DEVICE + " (checked first)";
    private static final String NO_PART = "Throws `IllegalArgumentException` if part is out of range";

    ForesightEdges(Checks checks, Sentences sentences) {
        super(checks, sentences);
    }

    @Override
    void run() {
        error();
        errorRefused();
        couples();
        causeIsSinceParse();
        causeRefused();
        scoreWith();
        scoreWithNotPluggedIn();
        feared();
        fearedIsNone();
        framesToClear();
        framesToClearOfSeveral();
        atStake();
        weakest();
        whyNotRunning();
        whyNotRunningFirstReason();
        event();
        account();
        accountOfUnitsAndErrors();
        rightShare();
        rightShareOfNone();
    }

    /** For calls that want a device alone: each number that is none throws. */
    private void wantsDevice(String name, BiConsumer<ForesightHub, Integer> call) {
        for (int device : new int[] {-1, 3, 8, MIN, MAX}) {
            refused(name + "(" + device + ")", INDEX, h -> call.accept(h, device));
        }
    }

    private void error() {
        at(9, "`device`: a device", "`k`: 0 for the latest of its kept errors", "`part`: 0 the kind, 1 the time",
                "Returns the part; NONE if not so many are kept, or k is negative.");
        for (int count : new int[] {0, 1, 2, 11, 12, 13}) {
            ForesightHub x = hub("hub 9 2;device a 0;device b 1;");
            for (int i = 0; i < count; i++) {
                x.frames(3);
                x.fail(1, i % 3);
            }
            int kept = Math.min(12, count);
            for (int k : new int[] {MIN, -2, -1, 0, 1, kept - 1, kept, kept + 1, 12, 13, MAX}) {
                boolean there = k >= 0 && k < kept;
                due("error(1, " + k + ", 0) of " + count, x.error(1, k, 0), there ? (count - 1 - k) % 3 : -1);
                due("error(1, " + k + ", 1) of " + count, x.error(1, k, 1), there ? 3 * (count - k) : -1);
                due("error(0, " + k + ", 0)", x.error(0, k, 0), -1);
                due("error(0, " + k + ", 1)", x.error(0, k, 1), -1);
            }
        }
    }

    private void errorRefused() {
        at(9, NO_DEVICE_FIRST);
        for (int device : new int[] {-1, 3, 8, MIN, MAX}) {
            for (int part : new int[] {-1, 0, 1, 2}) {
                refused("error(" + device + ", 0, " + part + ")", INDEX, h -> h.error(device, 0, part));
            }
        }
        at(9, NO_PART);
        for (int part : new int[] {-1, 2, 3, MIN, MAX}) {
            for (int k : new int[] {-1, 0, 11, 12}) {
                refused("error(0, " + k + ", " + part + ")", ARGUMENT, h -> h.error(0, k, part));
            }
        }
    }

    private void causeIs(ForesightHub x, int k, int device, int kind, int came) {
        due("cause(" + k + ", 0)", x.cause(k, 0), device);
        due("cause(" + k + ", 1)", x.cause(k, 1), kind);
        due("cause(" + k + ", 2)", x.cause(k, 2), came);
    }

    private static String eightDevices() {
        StringBuilder text = new StringBuilder("hub 9 8;");
        for (int i = 0; i < 8; i++) {
            text.append("device ").append((char) ('a' + i)).append(' ').append(i).append(';');
        }
        return text.toString();
    }

    private void couples() {
        at(10, "Returns a couple of a device and a kind of error.", "are numbered from 0 in the order in which the first "
                + "one of each came.", "`k`: number of a couple", "`part`: 0 the device, 1 the kind, 2 how many of these "
                + "errors came", "Returns the part; NONE if there are not so many couples, or k is negative.");
        ForesightHub x = hub(eightDevices());
        for (int count = 0; count <= 32; count++) {
            for (int k : new int[] {MIN, -1, count, count + 1, 32, 33, MAX}) {
                causeIs(x, k, -1, -1, -1);
            }
            for (int k = 0; k < count; k++) {
                // each came once as a new one, and the couple ahead of the latest one once more
                causeIs(x, k, 7 - k * 3 % 8, (k / 8 + k) % 4, k < count - 1 ? 2 : 1);
            }
            if (count > 0) {
                x.fail(7 - (count - 1) * 3 % 8, ((count - 1) / 8 + count - 1) % 4);
            }
            if (count < 32) {
                x.fail(7 - count * 3 % 8, (count / 8 + count) % 4);
            }
        }
        causeIs(x, 31, 7 - 31 * 3 % 8, (31 / 8 + 31) % 4, 2);
        causeIs(x, 32, -1, -1, -1);
    }

    private void causeIsSinceParse() {
        at(10, "Couples of which at least one error came (since parse, also such as are forgotten)");
        ForesightHub x = hub("hub 9 2;device a 0;device b 1;");
        causeIs(x, 0, -1, -1, -1);
        x.fail(1, 2);
        causeIs(x, 0, 1, 2, 1);
        causeIs(x, 1, -1, -1, -1);
        x.unplug(1);
        causeIs(x, 0, 1, 2, 1);
        x.plug(1, 1);
        x.fail(1, 2);
        x.warn(1);
        x.callOff(1);
        causeIs(x, 0, 1, 2, 2);
        for (int i = 0; i < 20; i++) {
            x.fail(1, 2);
        }
        causeIs(x, 0, 1, 2, 22);
        causeIs(x, 1, -1, -1, -1);
        x.fail(0, 0);
        x.fail(0, 0);
        causeIs(x, 1, 0, 0, 2);
        // a text that is wrong alters nothing, another one that is right begins anew
        Checks.parse(x, "hub 9 2;device a 0;;");
        causeIs(x, 0, 1, 2, 22);
        Checks.parse(x, "hub 9 2;device a 0;device b 1;");
        causeIs(x, 0, -1, -1, -1);
        x.fail(0, 0);
        x.fail(1, 2);
        causeIs(x, 0, 0, 0, 1);
        causeIs(x, 1, 1, 2, 1);
        // an error that is undone did not come, and its couple's number is free
        x.undo();
        x.fail(0, 3);
        causeIs(x, 1, 0, 3, 1);
        causeIs(x, 2, -1, -1, -1);
    }

    private void causeRefused() {
        at(10, NO_PART);
        for (int part : new int[] {-1, 3, 4, MIN, MAX}) {
            for (int k : new int[] {-1, 0, 32}) {
                refused("cause(" + k + ", " + part + ")", ARGUMENT, h -> h.cause(k, part));
            }
        }
    }

    private void scoreWith() {
        at(11, "`device`: a device", "`kind`: a kind of error, 0 to 3", "Returns the score that the device would have if an "
                + "error of this kind came to it now;");
        ForesightHub x = hub("hub 9 2;pattern p 1 9 crc;pattern q 2 9 stall;pattern r 4 9 jitter;pattern s 8 9 power;"
                + "pattern t 16 3 crc power;pattern u 32 1 power power;device a 0;device b 1;alarm 99 9;");
        int[] alone = {1, 2, 4, 8};
        for (int kind = 0; kind <= 3; kind++) {
            due("scoreWith(0, " + kind + ")", x.scoreWith(0, kind), alone[kind]);
        }
        x.fail(0, 0);
        x.frames(2);
        due("scoreWith(0, 3), the crc 2 frames ago", x.scoreWith(0, 3), 25);
        due("scoreWith(1, 3)", x.scoreWith(1, 3), 8);
        x.frames(1);
        due("scoreWith(0, 3), the crc 3 frames ago", x.scoreWith(0, 3), 9);
        x.fail(0, 3);
        due("scoreWith(0, 3), a power now", x.scoreWith(0, 3), 41);
        // with 11, 12 and 13 errors, of which the first one is the crc
        for (int before = 11; before <= 13; before++) {
            ForesightHub y = hub("hub 9 1;pattern p 7 200 crc power;device a 0;alarm 999 99;");
            y.fail(0, 0);
            for (int i = 1; i < before; i++) {
                y.fail(0, 1);
            }
            due("scoreWith(0, 3) behind " + before, y.scoreWith(0, 3), before <= 11 ? 7 : 0);
            deviceIs(y, 0, 5, Math.min(12, before));
            due("fail(0, 3) behind " + before, y.fail(0, 3), before <= 11 ? 7 : 0);
        }
        // what would begin an alarm begins none, and one in alarm has a score, too
        ForesightHub z = hub("hub 9 1;pattern p 7 9 crc;device a 0;alarm 7 99;");
        due("scoreWith(0, 0)", z.scoreWith(0, 0), 7);
        deviceIs(z, 0, 2, 0);
        z.warn(0);
        due("scoreWith(0, 0) in alarm", z.scoreWith(0, 0), 7);
        idle(busy, "scoreWith(1, 0)", 6, h -> h.scoreWith(1, 0));
    }

    private void scoreWithNotPluggedIn() {
        at(11, "NONE if it is not plugged in.");
        for (int kind = 0; kind <= 3; kind++) {
            int one = kind;
            idle(busy, "scoreWith(2, " + kind + ")", -1, h -> h.scoreWith(2, one));
        }
        at(11, NO_DEVICE_FIRST);
        for (int device : new int[] {-1, 3, 8, MIN, MAX}) {
            for (int kind : new int[] {-1, 0, 3, 4}) {
                refused("scoreWith(" + device + ", " + kind + ")", INDEX, h -> h.scoreWith(device, kind));
            }
        }
        at(11, "Throws `IllegalArgumentException` if kind is out of range");
        for (int kind : new int[] {-1, 4, 5, MIN, MAX}) {
            for (int device = 0; device <= 2; device++) {
                int one = device;
                refused("scoreWith(" + device + ", " + kind + ")", ARGUMENT, h -> h.scoreWith(one, kind));
            }
        }
    }

    private void feared() {
        at(12, "`device`: a device", "Returns the lowest kind of error with which an alarm of the device would begin now;");
        for (int kind = 0; kind <= 3; kind++) {
            for (int score = 6; score <= 8; score++) {
                String word = new String[] {"crc", "stall", "jitter", "power"}[kind];
                ForesightHub x = hub("hub 9 1;pattern p 7 9 " + word + ";device a 0;alarm " + score + " 9;");
                due("feared(0), 7 for " + score, x.feared(0), score <= 7 ? kind : -1);
            }
        }
        ForesightHub x = hub("hub 9 1;pattern p 7 9 power;pattern q 8 9 jitter;pattern r 7 9 stall;device a 0;alarm 8 9;");
        due("feared(0)", x.feared(0), 2);
        x.setScore(7);
        due("feared(0)", x.feared(0), 1);
        x.setScore(9);
        due("feared(0)", x.feared(0), -1);
        // the errors that are kept count, as long as they are not too old
        ForesightHub y = hub("hub 9 1;pattern p 7 3 crc power;device a 0;alarm 7 9;");
        due("feared(0)", y.feared(0), -1);
        y.fail(0, 0);
        y.frames(2);
        due("feared(0)", y.feared(0), 3);
        y.frames(1);
        due("feared(0)", y.feared(0), -1);
        // where the score is there already, the lowest kind is enough
        ForesightHub z = hub("hub 9 1;pattern p 7 9 power;device a 0;alarm 8 9;");
        z.fail(0, 3);
        z.setScore(7);
        due("feared(0)", z.feared(0), 0);
    }

    private void fearedIsNone() {
        at(12, "NONE if there is none, or if it is in alarm or not plugged in.");
        ForesightHub x = hub("hub 9 1;pattern p 7 9 crc;device a 0;alarm 7 99;");
        due("feared(0)", x.feared(0), 0);
        x.warn(0);
        due("feared(0) in alarm", x.feared(0), -1);
        x.callOff(0);
        due("feared(0)", x.feared(0), 0);
        x.unplug(0);
        due("feared(0), not plugged in", x.feared(0), -1);
        x.plug(0, 0);
        x.setScore(8);
        due("feared(0), none", x.feared(0), -1);
        due("feared(0) without patterns", hub("hub 9 1;device a 0;alarm 1 1;").feared(0), -1);
        idle(busy, "feared(2)", -1, h -> h.feared(2));
        at(12, NO_DEVICE);
        wantsDevice("feared", ForesightHub::feared);
    }

    private void framesToClear() {
        at(13, "`device`: a device", "Returns the number of frames until no stream that the device holds now would be held "
                + "by it any more if each of them was ending from now on:", "(0 if none is begun);", "0 without streams.");
        due("framesToClear(0) without streams", hub("hub 9 1;device a 0;").framesToClear(0), 0);
        // by 5 units in a frame: less than a frame is missing, just a frame, a unit more than that, and so on
        for (int packet = 1; packet <= 26; packet++) {
            ForesightHub x = hub("hub 9 1;device a 0;stream s a 5 " + packet + ";alarm 9 99;");
            due("framesToClear(0), none begun", x.framesToClear(0), 0);
            x.frames(1);
            int done = 5 % packet;
            int frames = 0;
            for (int units = done; units > 0 && units < packet; units += 5) {
                frames++;
            }
            due("framesToClear(0), " + done + " of " + packet, x.framesToClear(0), frames);
            // and so many frames it takes
            due("warn(0)", x.warn(0), frames);
            for (int left = frames; left > 0; left--) {
                due("framesToClear(0)", x.framesToClear(0), left);
                deviceIs(x, 0, 6, 1);
                x.frames(1);
            }
            deviceIs(x, 0, 6, 0);
            due("framesToClear(0)", x.framesToClear(0), 0);
        }
        ForesightHub y = hub("hub 9 1;device a 0;stream s a 1 9999;");
        y.frames(1);
        due("framesToClear(0)", y.framesToClear(0), 9998);
        at(13, NO_DEVICE);
        wantsDevice("framesToClear", ForesightHub::framesToClear);
    }

    private void framesToClearOfSeveral() {
        at(13, "the greatest number of frames in which one of them gets the units that are missing to its packet");
        ForesightHub x = hub("hub 20 2;device a 0;device b 1 heir a;stream s b 1 4;stream t b 2 21;stream u b 3 9;"
                + "stream v a 4 400;alarm 9 99;");
        x.frames(1);
        // 3 by 1, 19 by 2, 6 by 3
        due("framesToClear(1)", x.framesToClear(1), 10);
        due("framesToClear(0), 396 by 4", x.framesToClear(0), 99);
        x.frames(9);
        // 2 by 1, 1 by 2, 6 by 3
        due("framesToClear(1)", x.framesToClear(1), 2);
        x.frames(1);
        // 1 by 1, 20 by 2, 3 by 3
        due("framesToClear(1)", x.framesToClear(1), 10);
        // streams that wait, and those that another one holds, do not count
        x.unplug(1);
        due("framesToClear(1), not plugged in", x.framesToClear(1), 0);
        due("framesToClear(0)", x.framesToClear(0), 89);
    }

    private void atStake() {
        at(14, "`device`: a device", "Returns the units that would be lost if it was unplugged now.");
        due("atStake(0) without streams", hub("hub 9 1;device a 0;").atStake(0), 0);
        ForesightHub x = hub("hub 20 2;device a 0;device b 1 heir a;stream s b 1 2;stream t b 2 21;stream u b 3 9;"
                + "stream v a 4 40;alarm 9 99;");
        int[] ofB = {0, 1 + 2 + 3, 4 + 6, 1 + 6, 8 + 3};
        for (int frame = 0; frame <= 4; frame++) {
            due("atStake(1)", x.atStake(1), ofB[frame]);
            due("atStake(0)", x.atStake(0), 4 * frame);
            due("unplug(1)", x.unplug(1), ofB[frame]);
            due("atStake(1), not plugged in", x.atStake(1), 0);
            x.undo();
            x.frames(1);
        }
        // of an ending stream, too
        x.warn(1);
        due("atStake(1)", x.atStake(1), 1 + 10 + 6);
        due("unplug(1)", x.unplug(1), 17);
        at(14, NO_DEVICE);
        wantsDevice("atStake", ForesightHub::atStake);
    }

    private void weakest() {
        at(15, "Returns the device that is plugged in and has the greatest score, of several the first one; NONE if none "
                + "is plugged in.");
        due("weakest() without devices", hub("hub 9 1;").weakest(), -1);
        ForesightHub x = hub("hub 9 3;pattern p 7 9 crc;pattern q 1 9 stall;device a 2;device b 1;device c 0;alarm 99 9;");
        due("weakest(), none has a score", x.weakest(), 0);
        x.fail(2, 1);
        due("weakest(), 0 0 1", x.weakest(), 2);
        x.fail(1, 1);
        due("weakest(), 0 1 1", x.weakest(), 1);
        x.fail(2, 0);
        due("weakest(), 0 1 8", x.weakest(), 2);
        x.fail(0, 0);
        x.fail(0, 1);
        due("weakest(), 8 1 8", x.weakest(), 0);
        x.warn(0);
        due("weakest(), 8 1 8, one in alarm", x.weakest(), 0);
        x.unplug(0);
        due("weakest(), - 1 8", x.weakest(), 2);
        x.unplug(2);
        due("weakest(), - 1 -", x.weakest(), 1);
        x.unplug(1);
        due("weakest(), - - -", x.weakest(), -1);
        x.plug(2, 1);
        due("weakest(), - - 0", x.weakest(), 2);
    }

    private void whyNotRunning() {
        at(16, "`stream`: a stream", "Returns the first reason that applies why it is not running:", "0 if it is running.",
                "1 its home is in alarm, or not plugged in, and there is no heir,");
        ForesightHub x = hub("hub 9 2;device a 0;device b 1 heir a;stream s a 2 9;stream t b 2 9;alarm 9 99;");
        due("whyNotRunning(0)", x.whyNotRunning(0), 0);
        due("whyNotRunning(1)", x.whyNotRunning(1), 0);
        x.warn(0);
        due("whyNotRunning(0), home in alarm", x.whyNotRunning(0), 1);
        x.unplug(0);
        due("whyNotRunning(0), home not plugged in", x.whyNotRunning(0), 1);
        due("whyNotRunning(1), the heir alone is away", x.whyNotRunning(1), 0);
        at(16, "2 as 1, but the heir is in alarm or not plugged in,");
        x.warn(1);
        due("whyNotRunning(1), home in alarm, heir not plugged in", x.whyNotRunning(1), 2);
        x.plug(0, 0);
        due("whyNotRunning(1), the heir is back", x.whyNotRunning(1), 0);
        x.warn(0);
        due("whyNotRunning(1), both in alarm", x.whyNotRunning(1), 2);
        x.unplug(1);
        due("whyNotRunning(1), home not plugged in, heir in alarm", x.whyNotRunning(1), 2);
        x.unplug(0);
        due("whyNotRunning(1), both not plugged in", x.whyNotRunning(1), 2);
        at(16, "3 it waits, because its rate is more than what is not reserved,");
        for (int rate = 4; rate <= 6; rate++) {
            ForesightHub y = hub("hub 9 1;device a 0;stream s a 4 9;stream t a " + rate + " 9;");
            due("whyNotRunning(1), " + rate + " of 5", y.whyNotRunning(1), rate <= 5 ? 0 : 3);
        }
        at(16, "4 it is ending;");
        ForesightHub z = hub("hub 9 2;device a 0;device b 1 heir a;stream s b 4 9;alarm 9 99;");
        z.frames(1);
        z.warn(1);
        due("whyNotRunning(0)", z.whyNotRunning(0), 4);
        z.frames(1);
        due("whyNotRunning(0)", z.whyNotRunning(0), 4);
        z.frames(1);
        due("whyNotRunning(0)", z.whyNotRunning(0), 0);
        at(16, "Throws `IndexOutOfBoundsException` if there is no such stream");
        for (int stream : new int[] {-1, 4, 12, MIN, MAX}) {
            refused("whyNotRunning(" + stream + ")", INDEX, h -> h.whyNotRunning(stream));
        }
    }

    private void whyNotRunningFirstReason() {
        at(16, "Returns the first reason that applies");
        // ending and without a wanted holder: 1 or 2 comes ahead of 4
        ForesightHub x = hub("hub 9 2;device a 0;device b 1 heir a;stream s a 4 99;stream t b 5 99;stream u a 9 9;"
                + "stream v b 9 9;alarm 9 99;");
        due("whyNotRunning(2)", x.whyNotRunning(2), 3);
        due("whyNotRunning(3)", x.whyNotRunning(3), 3);
        x.frames(1);
        x.warn(1);
        due("whyNotRunning(1)", x.whyNotRunning(1), 4);
        // waiting for the heir, for which there is no room
        due("whyNotRunning(3)", x.whyNotRunning(3), 3);
        x.warn(0);
        streamIs(x, 0, 0, 2);
        streamIs(x, 1, 0, 2);
        due("whyNotRunning(0)", x.whyNotRunning(0), 1);
        due("whyNotRunning(1)", x.whyNotRunning(1), 2);
        // waiting without a wanted holder: 1 or 2 comes ahead of 3
        due("whyNotRunning(2)", x.whyNotRunning(2), 1);
        due("whyNotRunning(3)", x.whyNotRunning(3), 2);
    }

    private void event() {
        at(17, "`k`: 0 for the latest event; the latest 24 are kept", "`part`: 0 its kind, 1 its device or stream, 2 its "
                + "time", "Returns the part; NONE if not so many events are kept, or k is negative.");
        for (int count : new int[] {0, 1, 2, 23, 24, 25, 26}) {
            ForesightHub x = hub("hub 9 2;device a 0;device b 1;");
            // a, b, b, a, b, b .. are unplugged, at the times 2, 4, 6 ..
            for (int i = 0; i < count; i++) {
                int device = Math.min(1, i % 3);
                x.frames(2);
                x.unplug(device);
                x.plug(device, device);
            }
            int kept = Math.min(24, count);
            for (int k : new int[] {MIN, -2, -1, 0, kept - 1, kept, 23, 24, 25, MAX}) {
                boolean there = k >= 0 && k < kept;
                int i = count - 1 - k;
                due("event(" + k + ", 0) of " + count, x.event(k, 0), there ? 3 : -1);
                due("event(" + k + ", 1) of " + count, x.event(k, 1), there ? Math.min(1, i % 3) : -1);
                due("event(" + k + ", 2) of " + count, x.event(k, 2), there ? 2 * i + 2 : -1);
            }
        }
        at(17, NO_PART);
        for (int part : new int[] {-1, 3, 4, MIN, MAX}) {
            for (int k : new int[] {-1, 0, 23, 24}) {
                refused("event(" + k + ", " + part + ")", ARGUMENT, h -> h.event(k, part));
            }
        }
    }

    private void account() {
        at(18, "`what`: 0 to 7 events of this kind,", "Returns the number since parse.");
        ForesightHub x = hub("hub 20 2;device a 0;device b 1 heir a;stream s a 2 9;stream t b 3 3;alarm 9 99;");
        accountsAre(x, 0, 0, 0, 0, 0, 0, 2, 0, 0, 0);
        x.warn(1);
        accountsAre(x, 1, 0, 0, 0, 1, 0, 2, 0, 0, 0);
        x.warn(0);
        accountsAre(x, 2, 0, 0, 0, 1, 2, 2, 0, 0, 0);
        x.callOff(0);
        accountsAre(x, 2, 1, 0, 0, 1, 2, 4, 0, 0, 0);
        x.unplug(1);
        accountsAre(x, 2, 1, 1, 0, 1, 2, 4, 0, 0, 0);
        x.frames(1);
        x.unplug(0);
        accountsAre(x, 2, 1, 1, 1, 1, 2, 4, 1, 2, 0);
        x.undo();
        accountsAre(x, 2, 1, 1, 0, 1, 2, 4, 0, 0, 0);
        // more than the log keeps; with each alarm t waits, and s is ending, as it is within a packet
        for (int i = 0; i < 40; i++) {
            x.warn(0);
            x.callOff(0);
        }
        accountsAre(x, 42, 41, 1, 0, 1, 42, 44, 0, 0, 0);
        due("parse of a wrong text", Checks.parse(x, "hub"), Checks.fault(3, 1));
        due("account(0)", x.account(0), 42);
        due("parse", Checks.parse(x, "hub 1 1;"), 0);
        accountsAre(x, 0, 0, 0, 0, 0, 0, 0, 0, 0, 0);
        at(18, "Throws `IllegalArgumentException` if what is out of range");
        for (int what : new int[] {-1, 10, 11, MIN, MAX}) {
            refused("account(" + what + ")", ARGUMENT, h -> h.account(what));
        }
    }

    private void accountOfUnitsAndErrors() {
        at(18, "8 units that were lost, 9 errors");
        ForesightHub x = hub("hub 999 2;device a 0;device b 1;stream s a 900 9999;stream t a 9 10;stream u b 90 91;");
        x.frames(11);
        due("unplug(0)", x.unplug(0), 9900 + 9);
        due("account(8)", x.account(8), 9909);
        due("unplug(1)", x.unplug(1), 80);
        due("account(8)", x.account(8), 9989);
        x.plug(0, 0);
        x.unplug(0);
        due("account(8), nothing more is lost", x.account(8), 9989);
        // errors that are forgotten, or fall out of what is kept, have come all the same
        ForesightHub y = hub("hub 9 2;device a 0;device b 1;");
        for (int count = 1; count <= 14; count++) {
            y.fail(0, count % 4);
            due("account(9)", y.account(9), count);
        }
        y.unplug(0);
        due("account(9)", y.account(9), 14);
        y.fail(1, 0);
        due("account(9)", y.account(9), 15);
        y.undo();
        due("account(9) behind undo()", y.account(9), 14);
    }

    private void rightShare() {
        at(19, "Returns the share of right alarms among those that are over: their number, converted to double, divided by "
                + "that of right and wrong ones together;");
        for (int right = 0; right <= 4; right++) {
            for (int wrong = 0; wrong <= 4; wrong++) {
                ForesightHub x = hub("hub 9 2;device a 0;device b 1;alarm 9 1;");
                for (int i = 0; i < right; i++) {
                    x.warn(0);
                    x.unplug(0);
                    x.plug(0, 0);
                }
                for (int i = 0; i < wrong; i++) {
                    x.warn(1);
                    if (i % 2 == 0) {
                        x.callOff(1);
                    } else {
                        x.frames(1);
                    }
                }
                // one that goes on, and an unplugging without an alarm, do not count
                x.unplug(0);
                x.warn(1);
                double want = right + wrong == 0 ? 0.0 : (double) right / (double) (right + wrong);
                due("rightShare() of " + right + " right, " + wrong + " wrong", x.rightShare(), want);
            }
        }
    }

    private void rightShareOfNone() {
        at(19, "0.0 if none is over.");
        due("rightShare() of a new object", new ForesightHub().rightShare(), 0.0);
        ForesightHub x = hub("hub 9 2;device a 0;device b 1;alarm 9 9;");
        x.warn(0);
        due("rightShare(), one goes on", x.rightShare(), 0.0);
        x.unplug(1);
        due("rightShare(), one unplugged without an alarm", x.rightShare(), 0.0);
        x.unplug(0);
        due("rightShare(), a right one", x.rightShare(), 1.0);
        x.undo();
        due("rightShare() behind undo()", x.rightShare(), 0.0);
        idle(busy, "rightShare()", 0.0, ForesightHub::rightShare);
    }
}
