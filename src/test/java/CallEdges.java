import java.util.List;
import java.util.function.Supplier;

/** Promises 20 to 26: the changes. */
final class CallEdges extends Edges {
    private static final String NO_DEVICE_FIRST = "Throws `IndexOutOfBoundsException` if there is no such device (checked "
            + "first)";

    CallEdges(Checks checks, Sentences sentences) {
        super(checks, sentences);
    }

    @Override
    void run() {
        frames();
        framesRange();
        framesAnswer();
        fail();
        failAnswer();
        failRefused();
        warn();
        warnAnswer();
        warnRefused();
        callOff();
        callOffRefused();
        unplug();
        unplugRefused();
        plug();
        plugAnswer();
        plugRefused();
        setScore();
        setScoreRefused();
    }

    private void frames() {
        at(20, "Lets frames pass.");
        String text = "hub 20 3;device a 0;device b 1 heir a;device c 2;stream s b 5 7;stream t c 9 40;stream u a 6 5;"
                + "stream v b 1 1;alarm 9 3;";
        for (int frames : new int[] {1, 2, 3, 4, 5, 50, 200}) {
            ForesightHub x = hub(text);
            ForesightHub y = hub(text);
            x.frames(1);
            y.frames(1);
            x.warn(1);
            y.warn(1);
            x.warn(2);
            y.warn(2);
            x.frames(frames);
            for (int i = 0; i < frames; i++) {
                y.frames(1);
            }
            List<String> got = Checks.allOf(x);
            List<String> want = Checks.allOf(y);
            got.removeIf(answer -> answer.startsWith("size 9 "));
            want.removeIf(answer -> answer.startsWith("size 9 "));
            due("all behind " + frames + " frames, in one call and one by one", got, want);
            sizeIs(x, 9, 4);
        }
    }

    private void framesRange() {
        at(20, "`frames`: 1 to 200");
        ForesightHub x = hub("hub 9 1;device a 0;stream s a 1 2;");
        int time = 0;
        for (int frames : new int[] {1, 2, 199, 200}) {
            x.frames(frames);
            time += frames;
            sizeIs(x, 5, time);
            goes(x, 0, 1, 0, time % 2, time / 2);
        }
        due("frames(1) of a new object", new ForesightHub().frames(1), 0);
        at(20, "Throws `IllegalArgumentException` if frames is out of range");
        for (int frames : new int[] {0, -1, 201, 202, MIN, MAX}) {
            refused("frames(" + frames + ")", ARGUMENT, h -> h.frames(frames));
        }
    }

    private void framesAnswer() {
        at(20, "Returns what is reserved then.");
        due("frames(1) without streams", hub("hub 9 1;device a 0;").frames(1), 0);
        ForesightHub x = hub("hub 9 2;device a 0;device b 1;stream s a 9 27;stream t b 4 4;");
        due("frames(1)", x.frames(1), 9);
        x.warn(0);
        due("frames(1), ending", x.frames(1), 9);
        due("frames(1), the one waits and the other is held", x.frames(1), 4);
        due("frames(2)", x.frames(2), 4);
        due("size(6)", x.size(6), 4);
    }

    private void fail() {
        at(21, "An error comes to a device; if an alarm begins by it, the streams are settled.", "`device`: a device",
                "`kind`: a kind of error, 0 to 3");
        ForesightHub x = hub("hub 9 2;pattern p 5 9 crc;pattern q 2 9 power;device a 0;device b 1 heir a;stream s b 4 4;"
                + "alarm 6 9;");
        for (int kind = 0; kind <= 3; kind++) {
            x.fail(1, 3 - kind);
            due("error(1, 0, 0)", x.error(1, 0, 0), 3 - kind);
            due("account(9)", x.account(9), kind + 1);
            goes(x, 0, 1, kind < 3 ? 1 : 0, 0, 0);
        }
        logIs(x, e(6, 0, 0), e(0, 1, 0), e(4, 0, 0));
        // a further error begins no further alarm
        x.fail(1, 0);
        due("account(0)", x.account(0), 1);
        deviceIs(x, 1, 5, 5);
        deviceIs(x, 0, 5, 0);
    }

    private void failAnswer() {
        at(21, "Returns the score of the device then.");
        ForesightHub x = hub("hub 9 2;pattern p 5 3 crc;pattern q 2 9 crc stall;device a 0;device b 1;alarm 999 9;");
        due("fail(0, 2)", x.fail(0, 2), 0);
        due("fail(0, 0)", x.fail(0, 0), 5);
        due("fail(1, 1)", x.fail(1, 1), 0);
        due("fail(0, 1)", x.fail(0, 1), 7);
        x.frames(3);
        due("fail(0, 3), a pattern is too old", x.fail(0, 3), 2);
        // in alarm, too, and where the alarm begins by it
        ForesightHub y = hub("hub 9 1;pattern p 5 9 crc;device a 0;alarm 5 9;");
        due("fail(0, 0)", y.fail(0, 0), 5);
        due("fail(0, 1)", y.fail(0, 1), 5);
    }

    private void failRefused() {
        at(21, NO_DEVICE_FIRST);
        for (int device : new int[] {-1, 3, 8, MIN, MAX}) {
            for (int kind : new int[] {-1, 0, 3, 4}) {
                refused("fail(" + device + ", " + kind + ")", INDEX, h -> h.fail(device, kind));
            }
        }
        at(21, "Throws `IllegalArgumentException` if kind is out of range (checked second)");
        for (int kind : new int[] {-1, 4, 5, MIN, MAX}) {
            for (int device = 0; device <= 2; device++) {
                int one = device;
                refused("fail(" + device + ", " + kind + ")", ARGUMENT, h -> h.fail(one, kind));
            }
        }
        at(21, "Throws `IllegalStateException` if the device is not plugged in");
        for (int kind = 0; kind <= 3; kind++) {
            int one = kind;
            refused("fail(2, " + kind + ")", STATE, h -> h.fail(2, one));
        }
    }

    private void warn() {
        at(22, "Begins an alarm of a device without an error; the streams are settled then.", "`device`: a device");
        ForesightHub x = hub("hub 9 2;pattern p 5 9 crc;device a 0;device b 1 heir a;stream s b 4 4;stream t b 3 5;"
                + "alarm 999 2;");
        x.frames(1);
        x.warn(1);
        deviceIs(x, 1, 2, 1);
        deviceIs(x, 1, 5, 0);
        deviceIs(x, 0, 2, 0);
        due("account(9)", x.account(9), 0);
        due("cause(0, 0)", x.cause(0, 0), -1);
        goes(x, 0, 1, 0, 0, 1);
        goes(x, 1, 2, 1, 3, 0);
        logIs(x, e(6, 0, 0), e(6, 1, 0), e(0, 1, 1), e(4, 0, 1));
        // its grace counts from the warning
        x.frames(1);
        deviceIs(x, 1, 2, 1);
        x.frames(1);
        deviceIs(x, 1, 2, 0);
    }

    private void warnAnswer() {
        at(22, "Returns the frames until it is clear (see framesToClear; as they were before the settling).");
        for (int packet = 1; packet <= 14; packet++) {
            ForesightHub x = hub("hub 20 2;device a 0;device b 1 heir a;stream s b 4 " + packet + ";stream t a 5 99;"
                    + "stream u b 1 1;");
            x.frames(1);
            int want = x.framesToClear(1);
            due("warn(1), " + 4 % packet + " of " + packet, x.warn(1), want);
            due("the frames", want, 4 % packet == 0 ? 0 : (packet - 4 % packet + 3) / 4);
        }
        due("warn(0) without streams", hub("hub 9 1;device a 0;").warn(0), 0);
        // by the settling a stream comes to the device's heir, and another one comes up; neither counts
        ForesightHub y = hub("hub 9 2;device a 0;device b 1;stream s b 9 9;stream t a 9 99;");
        due("warn(1)", y.warn(1), 0);
        deviceIs(y, 0, 6, 2);
    }

    private void warnRefused() {
        at(22, NO_DEVICE_FIRST);
        for (int device : new int[] {-1, 3, 8, MIN, MAX}) {
            refused("warn(" + device + ")", INDEX, h -> h.warn(device));
        }
        at(22, "Throws `IllegalStateException` if the device is not plugged in or is in alarm already");
        refused("warn(2), not plugged in", STATE, h -> h.warn(2));
        refused("warn(1), in alarm", STATE, h -> h.warn(1));
        ForesightHub x = hub("hub 9 1;device a 0;");
        x.warn(0);
        x.callOff(0);
        due("warn(0) behind callOff(0)", x.warn(0), 0);
        x.unplug(0);
        c.thrown(x, "warn(0), unplugged in alarm", STATE, () -> x.warn(0));
        x.plug(0, 0);
        due("warn(0) behind plug(0, 0)", x.warn(0), 0);
    }

    private void callOff() {
        at(23, "Calls the alarm of a device off: it is over as a wrong one; the streams are settled then.",
                "`device`: a device", "Returns the number of streams that it holds then.");
        ForesightHub x = hub("hub 9 3;pattern p 5 9 crc;device a 0;device b 1 heir a;device c 2;stream s b 4 9;"
                + "stream t b 3 3;stream u c 2 2;alarm 5 99;");
        x.frames(1);
        x.fail(1, 0);
        x.warn(2);
        due("callOff(1)", x.callOff(1), 2);
        deviceIs(x, 1, 2, 0);
        deviceIs(x, 1, 5, 0);
        deviceIs(x, 1, 6, 3);
        deviceIs(x, 2, 2, 1);
        goes(x, 0, 1, 1, 4, 0);
        goes(x, 1, 1, 1, 0, 1);
        eventsAre(x, e(0, 1, 1), e(4, 1, 1), e(0, 2, 1), e(5, 2, 1), e(1, 1, 1), e(4, 1, 1));
        due("callOff(2)", x.callOff(2), 1);
        // none, where its streams are within packets at the heir
        ForesightHub y = hub("hub 9 2;device a 0;device b 1 heir a;stream s b 4 9;stream t b 3 9;alarm 5 99;");
        y.warn(1);
        y.frames(1);
        due("callOff(1)", y.callOff(1), 0);
        deviceIs(y, 0, 6, 3);
        due("callOff(0) without streams", callOffOfOne().callOff(0), 0);
        // all twelve
        StringBuilder text = new StringBuilder("hub 12 1;device a 0;");
        for (int i = 0; i < 12; i++) {
            text.append("stream ").append((char) ('a' + i)).append(" a 1 1;");
        }
        ForesightHub z = hub(text.toString());
        z.warn(0);
        due("callOff(0)", z.callOff(0), 12);
    }

    private static ForesightHub callOffOfOne() {
        ForesightHub x = hub("hub 9 1;device a 0;");
        x.warn(0);
        return x;
    }

    private void callOffRefused() {
        at(23, NO_DEVICE_FIRST);
        for (int device : new int[] {-1, 3, 8, MIN, MAX}) {
            refused("callOff(" + device + ")", INDEX, h -> h.callOff(device));
        }
        at(23, "Throws `IllegalStateException` if the device is not in alarm");
        refused("callOff(0), calm", STATE, h -> h.callOff(0));
        refused("callOff(2), not plugged in", STATE, h -> h.callOff(2));
        ForesightHub x = hub("hub 9 1;device a 0;alarm 9 2;");
        x.warn(0);
        x.frames(2);
        c.thrown(x, "callOff(0), over by its grace", STATE, () -> x.callOff(0));
        x.warn(0);
        x.callOff(0);
        c.thrown(x, "callOff(0), called off", STATE, () -> x.callOff(0));
        x.warn(0);
        x.unplug(0);
        c.thrown(x, "callOff(0), unplugged in alarm", STATE, () -> x.callOff(0));
        x.plug(0, 0);
        c.thrown(x, "callOff(0), plugged in again", STATE, () -> x.callOff(0));
    }

    private void unplug() {
        at(24, "Unplugs a device; its kept errors are forgotten, and the streams are settled then.", "`device`: a device",
                "Returns the units that were lost.");
        ForesightHub x = hub("hub 20 3;device a 0;device b 1 heir a;device c 2;stream s b 4 9;stream t b 3 3;"
                + "stream u c 2 7;stream v b 5 8;stream w c 9 9;");
        x.fail(1, 0);
        x.fail(2, 1);
        x.frames(1);
        goes(x, 4, 0, -1, 0, 0);
        due("unplug(1)", x.unplug(1), 9);
        deviceIs(x, 1, 0, -1);
        due("deviceAt(1)", x.deviceAt(1), -1);
        deviceIs(x, 1, 5, 0);
        deviceIs(x, 2, 5, 1);
        deviceIs(x, 0, 6, 11);
        goes(x, 0, 1, 0, 0, 0);
        goes(x, 1, 1, 0, 0, 1);
        goes(x, 2, 1, 2, 2, 0);
        goes(x, 3, 1, 0, 0, 0);
        due("unplug(2)", x.unplug(2), 2);
        due("unplug(0), nothing begun", x.unplug(0), 0);
        accountsAre(x, 0, 0, 0, 3, 0, 0, 7, 3, 11, 2);
        due("unplug(0) without streams", hub("hub 9 1;device a 0;").unplug(0), 0);
        // the most that can be lost by a stream
        ForesightHub y = hub("hub 1 1;device a 0;stream s a 1 9999;");
        for (int i = 0; i < 49; i++) {
            y.frames(200);
        }
        y.frames(198);
        due("unplug(0)", y.unplug(0), 9998);
    }

    private void unplugRefused() {
        at(24, NO_DEVICE_FIRST);
        for (int device : new int[] {-1, 3, 8, MIN, MAX}) {
            refused("unplug(" + device + ")", INDEX, h -> h.unplug(device));
        }
        at(24, "Throws `IllegalStateException` if it is not plugged in");
        refused("unplug(2)", STATE, h -> h.unplug(2));
        ForesightHub x = hub("hub 9 1;device a 0;");
        x.unplug(0);
        c.thrown(x, "unplug(0) again", STATE, () -> x.unplug(0));
        x.plug(0, 0);
        due("unplug(0) behind plug(0, 0)", x.unplug(0), 0);
        x.undo();
        due("unplug(0) behind undo()", x.unplug(0), 0);
    }

    private void plug() {
        at(25, "Plugs a device in; it is calm, and the streams are settled then.", "`device`: a device", "`port`: a port");
        ForesightHub x = hub("hub 20 8;device a 0;device b 7 heir a;stream s b 4 9;stream t b 3 3;");
        for (int port = 1; port <= 7; port++) {
            x.warn(1);
            x.unplug(1);
            due("plug(1, " + port + ")", x.plug(1, port), 2);
            deviceIs(x, 1, 0, port);
            deviceIs(x, 1, 2, 0);
            deviceIs(x, 1, 5, 0);
            due("deviceAt(" + port + ")", x.deviceAt(port), 1);
        }
        // at a port that another one has left, the least one
        x.unplug(0);
        x.unplug(1);
        due("plug(1, 0)", x.plug(1, 0), 2);
        due("plug(0, 7)", x.plug(0, 7), 0);
        due("deviceAt(0)", x.deviceAt(0), 1);
        due("deviceAt(7)", x.deviceAt(7), 0);
    }

    private void plugAnswer() {
        at(25, "Returns the number of streams that it holds then.");
        due("plug(0, 0) without streams", plugOf("hub 9 1;device a 0;"), 0);
        due("plug(0, 0) with one", plugOf("hub 9 1;device a 0;stream s a 9 9;"), 1);
        due("plug(0, 0) with one that has no room", plugOf("hub 9 1;device a 0;stream s a 9 9;stream t a 1 9;"), 1);
        due("plug(0, 0) with two", plugOf("hub 9 1;device a 0;stream s a 8 9;stream t a 1 9;"), 2);
        // those that are within a packet at the heir come later
        ForesightHub x = hub("hub 20 2;device a 0;device b 1 heir a;stream s b 4 9;stream t b 3 3;stream u b 2 9;");
        x.unplug(1);
        x.frames(1);
        due("plug(1, 1)", x.plug(1, 1), 1);
        goes(x, 0, 2, 0, 4, 0);
        goes(x, 1, 1, 1, 0, 1);
        goes(x, 2, 2, 0, 2, 0);
        eventsAre(x, e(4, 1, 1));
    }

    private static int plugOf(String text) {
        ForesightHub x = hub(text);
        x.unplug(0);
        return x.plug(0, 0);
    }

    private void plugRefused() {
        at(25, "Throws `IndexOutOfBoundsException` if there is no such device or port (checked first)");
        for (int device : new int[] {-1, 3, 8, MIN, MAX}) {
            for (int port : new int[] {-1, 0, 2, 4}) {
                refused("plug(" + device + ", " + port + ")", INDEX, h -> h.plug(device, port));
            }
        }
        for (int port : new int[] {-1, 4, 8, MIN, MAX}) {
            for (int device = 0; device <= 2; device++) {
                int one = device;
                refused("plug(" + device + ", " + port + ")", INDEX, h -> h.plug(one, port));
            }
        }
        at(25, "Throws `IllegalStateException` if the device is plugged in already, or another one is at the port");
        for (int port = 0; port <= 3; port++) {
            int one = port;
            refused("plug(0, " + port + "), plugged in already", STATE, h -> h.plug(0, one));
            refused("plug(1, " + port + "), plugged in already", STATE, h -> h.plug(1, one));
        }
        refused("plug(2, 0), where another one is", STATE, h -> h.plug(2, 0));
        refused("plug(2, 1), where another one is", STATE, h -> h.plug(2, 1));
        due("plug(2, 2)", busy.get().plug(2, 2), 0);
        due("plug(2, 3)", busy.get().plug(2, 3), 0);
    }

    private void setScore() {
        at(26, "Sets the score of the alarm;", "`score`: 1 to 999", "Returns the previous one.");
        ForesightHub x = new ForesightHub();
        int previous = 10;
        for (int score : new int[] {1, 2, 998, 999, 999, 1, 10}) {
            due("setScore(" + score + ")", x.setScore(score), previous);
            sizeIs(x, 7, score);
            previous = score;
        }
        due("setScore behind a text", hub("hub 1 1;alarm 77 1;").setScore(5), 77);
        at(26, "no alarm begins or ends by it.");
        ForesightHub y = hub("hub 1 2;pattern p 5 9 crc;device a 0;device b 1;alarm 5 99;");
        y.fail(1, 0);
        y.setScore(6);
        deviceIs(y, 1, 2, 1);
        y.fail(0, 0);
        for (int score = 6; score >= 1; score--) {
            y.setScore(score);
            deviceIs(y, 0, 2, 0);
            deviceIs(y, 1, 2, 1);
        }
        y.setScore(999);
        deviceIs(y, 1, 2, 1);
        logIs(y, e(0, 1, 0));
        y.frames(1);
        logIs(y, e(0, 1, 0));
    }

    private void setScoreRefused() {
        at(26, "Throws `IllegalArgumentException` if score is out of range");
        for (int score : new int[] {0, -1, 1000, 1001, MIN, MAX}) {
            refused("setScore(" + score + ")", ARGUMENT, h -> h.setScore(score));
        }
        Supplier<ForesightHub> fresh = ForesightHub::new;
        refused(fresh, "setScore(0)", ARGUMENT, h -> h.setScore(0));
        refused(fresh, "setScore(1000)", ARGUMENT, h -> h.setScore(1000));
    }
}
