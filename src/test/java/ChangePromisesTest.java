/** Promises 20 to 26: the changes. */
public final class ChangePromisesTest {
    private static final Class<IllegalArgumentException> ARGUMENT = IllegalArgumentException.class;
    private static final Class<IndexOutOfBoundsException> INDEX = IndexOutOfBoundsException.class;
    private static final Class<IllegalStateException> STATE = IllegalStateException.class;

    private final Checks c = new Checks();

    public static void main(String[] args) {
        ChangePromisesTest test = new ChangePromisesTest();
        test.frames();
        test.runningAndEnding();
        test.wrongAlarms();
        test.comingBack();
        test.singleUnits();
        test.heirsAreNotInherited();
        test.room();
        test.fail();
        test.warn();
        test.callOff();
        test.unplug();
        test.plug();
        test.setScore();
        test.eachChangeCounts();
        test.c.end();
    }

    private void streamIs(ForesightHub x, int stream, int mode, int holder, int done, long sent) {
        c.due("stream(" + stream + ", 0)", x.stream(stream, 0), mode);
        c.due("stream(" + stream + ", 1)", x.stream(stream, 1), holder);
        c.due("stream(" + stream + ", 5)", x.stream(stream, 5), done);
        c.due("packets(" + stream + ")", x.packets(stream), sent);
    }

    private void frames() {
        c.at("promise 20");
        ForesightHub x = Checks.hub("hub 20 2;device a 0;device b 1;stream s a 5 8;stream t b 9 3;stream u b 7 7;");
        c.due("frames(1)", x.frames(1), 14);
        c.due("size(5)", x.size(5), 1);
        streamIs(x, 0, 1, 0, 5, 0);
        streamIs(x, 1, 1, 1, 0, 3);
        streamIs(x, 2, 0, -1, 0, 0);
        c.due("frames(200)", x.frames(200), 14);
        c.due("size(5)", x.size(5), 201);
        streamIs(x, 0, 1, 0, 1005 % 8, 1005 / 8);
        c.thrown(x, "frames(0)", ARGUMENT, () -> x.frames(0));
        c.thrown(x, "frames(201)", ARGUMENT, () -> x.frames(201));
        c.thrown(x, "frames(-1)", ARGUMENT, () -> x.frames(-1));
        c.thrown(x, "frames(MIN_VALUE)", ARGUMENT, () -> x.frames(Integer.MIN_VALUE));
        ForesightHub y = Checks.hub("hub 20 1;device a 0;stream s a 5 7;stream t a 10 10;alarm 1 99;");
        y.frames(1);
        y.warn(0);
        c.due("frames(1) that frees the rates", y.frames(1), 0);
        streamIs(y, 0, 0, -1, 0, 1);
    }

    private void runningAndEnding() {
        c.at("terms, a frame");
        ForesightHub x = Checks.hub("hub 99 2;device a 0;device b 1 heir a;stream s b 5 8;stream t b 10 4;"
                + "stream u b 3 9;stream v b 2 50;alarm 1 50;");
        x.frames(1);
        streamIs(x, 0, 1, 1, 5, 0);
        streamIs(x, 1, 1, 1, 2, 2);
        streamIs(x, 2, 1, 1, 3, 0);
        x.warn(1);
        streamIs(x, 0, 2, 1, 5, 0);
        streamIs(x, 3, 2, 1, 2, 0);
        x.frames(1);
        // a stream that ends gets no more than its packet needs, and runs at the heir from the next frame on
        streamIs(x, 0, 1, 0, 0, 1);
        streamIs(x, 1, 1, 0, 0, 3);
        streamIs(x, 2, 2, 1, 6, 0);
        streamIs(x, 3, 2, 1, 4, 0);
        c.due("event(0, 0)", x.event(0, 0), 4);
        c.due("event(0, 1)", x.event(0, 1), 1);
        c.due("event(1, 1)", x.event(1, 1), 0);
        c.due("event(0, 2)", x.event(0, 2), 2);
        x.frames(1);
        streamIs(x, 0, 1, 0, 5, 1);
        streamIs(x, 2, 1, 0, 0, 1);
        streamIs(x, 3, 2, 1, 6, 0);
        c.due("size(6)", x.size(6), 20);
    }

    private void alarmIs(ForesightHub x, int device, int want) {
        c.due("device(" + device + ", 2) at " + x.size(5), x.device(device, 2), want);
    }

    private void wrongAlarms() {
        c.at("terms, wrong alarms");
        ForesightHub x = Checks.hub("hub 1 3;pattern p 9 50 crc;device a 0;device b 1;device c 2;alarm 9 3;");
        x.warn(2);
        x.fail(0, 0);
        x.frames(2);
        alarmIs(x, 0, 1);
        alarmIs(x, 2, 1);
        x.fail(0, 1);
        x.frames(1);
        alarmIs(x, 0, 1);
        alarmIs(x, 2, 0);
        c.due("event(0, 0)", x.event(0, 0), 1);
        c.due("event(0, 1)", x.event(0, 1), 2);
        c.due("event(0, 2)", x.event(0, 2), 3);
        x.frames(1);
        alarmIs(x, 0, 1);
        c.due("the alarm goes on with a low score, too", x.setScore(500), 9);
        x.frames(1);
        alarmIs(x, 0, 0);
        c.due("device(0, 5), forgotten", x.device(0, 5), 0);
        // an error before the alarm keeps it up as well
        ForesightHub y = Checks.hub("hub 1 2;device a 0;device b 1;alarm 9 3;");
        y.fail(0, 0);
        y.frames(2);
        y.warn(0);
        y.warn(1);
        y.frames(2);
        alarmIs(y, 0, 1);
        y.frames(1);
        alarmIs(y, 0, 0);
        // several in ascending order, the earliest device first
        c.due("event(1, 1)", y.event(1, 1), 0);
        c.due("event(0, 1)", y.event(0, 1), 1);
        c.due("event(1, 0)", y.event(1, 0), 1);
        // one error that comes within the alarm is enough, too
        ForesightHub w = Checks.hub("hub 1 1;device a 0;alarm 9 3;");
        w.warn(0);
        w.frames(2);
        w.fail(0, 0);
        w.frames(2);
        alarmIs(w, 0, 1);
        w.frames(1);
        alarmIs(w, 0, 0);
        ForesightHub z = Checks.hub("hub 1 1;device a 0;alarm 9 1;");
        z.warn(0);
        alarmIs(z, 0, 1);
        z.frames(1);
        alarmIs(z, 0, 0);
    }

    private void comingBack() {
        c.at("terms, behind a wrong alarm");
        ForesightHub x = Checks.hub("hub 20 2;device a 0;device b 1 heir a;stream s b 5 100;stream t b 4 10;alarm 9 3;");
        x.frames(1);
        x.warn(1);
        streamIs(x, 0, 2, 1, 5, 0);
        x.frames(2);
        // t has 4, 8 and 10 of 10 units
        streamIs(x, 1, 1, 0, 0, 1);
        x.frames(1);
        // the alarm is over: s runs on where it is, t ends at the heir
        alarmIs(x, 1, 0);
        streamIs(x, 0, 1, 1, 20, 0);
        streamIs(x, 1, 2, 0, 4, 1);
        x.frames(1);
        streamIs(x, 1, 2, 0, 8, 1);
        x.frames(1);
        streamIs(x, 1, 1, 1, 0, 2);
        c.due("event(0, 0)", x.event(0, 0), 4);
        c.due("account(4)", x.account(4), 2);
    }

    private void singleUnits() {
        c.at("terms, a single unit");
        ForesightHub x = Checks.hub("hub 9 2;device a 0;device b 1 heir a;stream s b 1 3;stream t b 1 1;");
        x.frames(1);
        x.warn(1);
        streamIs(x, 0, 2, 1, 1, 0);
        streamIs(x, 1, 1, 0, 0, 1);
        c.due("unplug(1)", x.unplug(1), 1);
        c.due("account(7)", x.account(7), 1);
        c.due("event(1, 0)", x.event(1, 0), 7);
        streamIs(x, 0, 1, 0, 0, 0);
        x.frames(3);
        streamIs(x, 0, 1, 0, 0, 1);
        streamIs(x, 1, 1, 0, 0, 4);
    }

    private void heirsAreNotInherited() {
        c.at("terms, the wanted holder");
        ForesightHub x = Checks.hub("hub 20 3;device a 0;device b 1 heir a;device c 2 heir b;stream s c 5 5;");
        c.due("stream(0, 2)", x.stream(0, 2), 2);
        x.warn(2);
        c.due("stream(0, 2)", x.stream(0, 2), 1);
        x.warn(1);
        c.due("stream(0, 2)", x.stream(0, 2), -1);
        streamIs(x, 0, 0, -1, 0, 0);
        x.unplug(1);
        c.due("stream(0, 2)", x.stream(0, 2), -1);
        x.plug(1, 1);
        streamIs(x, 0, 1, 1, 0, 0);
        x.callOff(2);
        streamIs(x, 0, 1, 2, 0, 0);
    }

    private void room() {
        c.at("terms, to settle");
        ForesightHub x = Checks.hub("hub 10 3;device a 0;device b 1;device c 2;stream s a 6 5;stream t b 5 5;"
                + "stream u c 4 9;stream v b 1 9;");
        // s and u fill it; a later one with a low rate has no room, either
        streamIs(x, 0, 1, 0, 0, 0);
        streamIs(x, 1, 0, -1, 0, 0);
        streamIs(x, 2, 1, 2, 0, 0);
        streamIs(x, 3, 0, -1, 0, 0);
        c.due("size(6)", x.size(6), 10);
        x.frames(1);
        x.unplug(2);
        streamIs(x, 1, 0, -1, 0, 0);
        streamIs(x, 2, 0, -1, 0, 0);
        streamIs(x, 3, 1, 1, 0, 0);
        x.unplug(0);
        streamIs(x, 1, 1, 1, 0, 0);
        c.due("size(6)", x.size(6), 6);
        x.plug(2, 2);
        c.due("size(6)", x.size(6), 10);
        x.plug(0, 0);
        streamIs(x, 0, 0, -1, 0, 1);
    }

    private void fail() {
        c.at("promise 21");
        ForesightHub x = Checks.hub("hub 20 3;pattern p 6 10 crc crc;pattern q 5 3 stall crc;device a 0;"
                + "device b 1 heir a;stream s b 5 5;alarm 11 4;");
        c.due("fail(1, 0)", x.fail(1, 0), 0);
        c.due("fail(1, 0)", x.fail(1, 0), 6);
        alarmIs(x, 1, 0);
        c.due("fail(1, 1)", x.fail(1, 1), 6);
        c.due("fail(1, 0)", x.fail(1, 0), 11);
        alarmIs(x, 1, 1);
        streamIs(x, 0, 1, 0, 0, 0);
        c.due("event(1, 0)", x.event(1, 0), 0);
        c.due("event(0, 0)", x.event(0, 0), 4);
        c.due("account(9)", x.account(9), 4);
        c.due("fail(1, 0) in alarm", x.fail(1, 0), 11);
        c.due("account(0)", x.account(0), 1);
        c.due("size(9)", x.size(9), 5);
        x.unplug(0);
        c.thrown(x, "fail(2, 9)", INDEX, () -> x.fail(2, 9));
        c.thrown(x, "fail(-1, 0)", INDEX, () -> x.fail(-1, 0));
        c.thrown(x, "fail(0, 4) unplugged", ARGUMENT, () -> x.fail(0, 4));
        c.thrown(x, "fail(1, -1)", ARGUMENT, () -> x.fail(1, -1));
        c.thrown(x, "fail(0, 0) unplugged", STATE, () -> x.fail(0, 0));
        // an alarm whose beginning is later than the first errors is over by its own beginning
        ForesightHub y = Checks.hub("hub 1 1;pattern p 6 10 crc;device a 0;alarm 6 2;");
        y.frames(5);
        c.due("fail(0, 0)", y.fail(0, 0), 6);
        y.frames(1);
        alarmIs(y, 0, 1);
        y.frames(1);
        alarmIs(y, 0, 0);
        c.due("fail(0, 0) once more", y.fail(0, 0), 6);
        alarmIs(y, 0, 1);
    }

    private void warn() {
        c.at("promise 22");
        ForesightHub x = Checks.hub("hub 20 2;device a 0;device b 1 heir a;stream s b 5 100;stream t b 4 4;"
                + "stream u a 3 9;");
        x.frames(1);
        c.due("warn(1), 95 by 5", x.warn(1), 19);
        alarmIs(x, 1, 1);
        streamIs(x, 0, 2, 1, 5, 0);
        streamIs(x, 1, 1, 0, 0, 1);
        c.due("event(1, 0)", x.event(1, 0), 0);
        c.due("event(1, 1)", x.event(1, 1), 1);
        c.due("account(9)", x.account(9), 0);
        c.due("size(9)", x.size(9), 2);
        c.due("warn(0), 6 by 3", x.warn(0), 2);
        x.unplug(0);
        c.thrown(x, "warn(2)", INDEX, () -> x.warn(2));
        c.thrown(x, "warn(-1)", INDEX, () -> x.warn(-1));
        c.thrown(x, "warn(1) in alarm", STATE, () -> x.warn(1));
        c.thrown(x, "warn(0) unplugged", STATE, () -> x.warn(0));
        // as it was before the settling: t had nothing begun, and yet it is counted with what it holds
        ForesightHub y = Checks.hub("hub 20 1;device a 0;stream s a 3 10;");
        c.due("warn(0), nothing begun", y.warn(0), 0);
        streamIs(y, 0, 0, -1, 0, 0);
    }

    private void callOff() {
        c.at("promise 23");
        ForesightHub x = Checks.hub("hub 20 2;device a 0;device b 1 heir a;stream s b 5 100;stream t b 4 4;"
                + "stream u b 3 3;");
        x.frames(1);
        x.fail(1, 2);
        x.warn(1);
        c.due("device(1, 6)", x.device(1, 6), 1);
        c.due("callOff(1)", x.callOff(1), 3);
        alarmIs(x, 1, 0);
        streamIs(x, 0, 1, 1, 5, 0);
        streamIs(x, 1, 1, 1, 0, 1);
        c.due("device(1, 5)", x.device(1, 5), 0);
        c.due("account(1)", x.account(1), 1);
        c.due("event(2, 0)", x.event(2, 0), 1);
        c.due("event(0, 0)", x.event(0, 0), 4);
        c.due("size(9)", x.size(9), 4);
        x.warn(1);
        x.frames(1);
        c.due("callOff(1), with two at the heir", x.callOff(1), 3);
        x.warn(0);
        x.unplug(0);
        c.thrown(x, "callOff(2)", INDEX, () -> x.callOff(2));
        c.thrown(x, "callOff(-1)", INDEX, () -> x.callOff(-1));
        c.thrown(x, "callOff(1) calm", STATE, () -> x.callOff(1));
        c.thrown(x, "callOff(0) unplugged", STATE, () -> x.callOff(0));
        // streams that are within a packet at the heir come back later
        ForesightHub y = Checks.hub("hub 20 2;device a 0;device b 1 heir a;stream s b 5 7;");
        y.warn(1);
        y.frames(1);
        c.due("callOff(1), the stream is ending at the heir", y.callOff(1), 0);
        streamIs(y, 0, 2, 0, 5, 0);
    }

    private void unplug() {
        c.at("promise 24");
        ForesightHub x = Checks.hub("hub 20 3;device a 0;device b 1 heir a;stream s b 5 100;stream t b 4 4;"
                + "stream u a 3 9;stream v b 12 12;");
        x.frames(2);
        x.fail(1, 3);
        c.due("unplug(1)", x.unplug(1), 10);
        c.due("device(1, 0)", x.device(1, 0), -1);
        c.due("deviceAt(1)", x.deviceAt(1), -1);
        c.due("device(1, 5)", x.device(1, 5), 0);
        c.due("account(3)", x.account(3), 1);
        c.due("account(7)", x.account(7), 1);
        c.due("account(8)", x.account(8), 10);
        streamIs(x, 0, 1, 0, 0, 0);
        streamIs(x, 1, 1, 0, 0, 2);
        streamIs(x, 2, 1, 0, 6, 0);
        x.frames(1);
        x.warn(0);
        // s has 5, u has none of the next packet and waits; t waits, too
        c.due("unplug(0) in alarm", x.unplug(0), 5);
        alarmIs(x, 0, 0);
        c.due("account(2)", x.account(2), 1);
        c.due("account(3)", x.account(3), 1);
        c.due("account(8)", x.account(8), 15);
        c.due("size(6)", x.size(6), 0);
        streamIs(x, 0, 0, -1, 0, 0);
        c.thrown(x, "unplug(0) again", STATE, () -> x.unplug(0));
        c.thrown(x, "unplug(2)", INDEX, () -> x.unplug(2));
        c.thrown(x, "unplug(-1)", INDEX, () -> x.unplug(-1));
        c.due("size(9)", x.size(9), 6);
    }

    private void plug() {
        c.at("promise 25");
        ForesightHub x = Checks.hub("hub 20 4;device a 0;device b 1 heir a;device c 2;stream s b 5 8;stream t b 4 4;");
        x.unplug(1);
        x.frames(1);
        // s is within a packet at the heir, t is not
        c.due("plug(1, 3)", x.plug(1, 3), 1);
        c.due("deviceAt(3)", x.deviceAt(3), 1);
        c.due("device(1, 0)", x.device(1, 0), 3);
        streamIs(x, 0, 2, 0, 5, 0);
        streamIs(x, 1, 1, 1, 0, 1);
        c.due("account(6)", x.account(6), 4);
        x.warn(1);
        x.unplug(1);
        x.plug(1, 1);
        alarmIs(x, 1, 0);
        x.unplug(2);
        c.due("size(9)", x.size(9), 7);
        c.thrown(x, "plug(3, 3)", INDEX, () -> x.plug(3, 3));
        c.thrown(x, "plug(-1, 3)", INDEX, () -> x.plug(-1, 3));
        c.thrown(x, "plug(2, 4)", INDEX, () -> x.plug(2, 4));
        c.thrown(x, "plug(2, -1)", INDEX, () -> x.plug(2, -1));
        c.thrown(x, "plug(1, 4) plugged in", INDEX, () -> x.plug(1, 4));
        c.thrown(x, "plug(1, 3) plugged in", STATE, () -> x.plug(1, 3));
        c.thrown(x, "plug(1, 1) plugged in there", STATE, () -> x.plug(1, 1));
        c.thrown(x, "plug(2, 0) where another one is", STATE, () -> x.plug(2, 0));
        c.due("plug(2, 2)", x.plug(2, 2), 0);
        // a device that comes back gets its waiting streams as far as there is room
        ForesightHub y = Checks.hub("hub 9 2;device a 0;device b 1;stream s a 5 8;stream t b 6 8;stream u a 3 8;");
        y.unplug(0);
        c.due("plug(0, 0)", y.plug(0, 0), 1);
        c.due("device(0, 6)", y.device(0, 6), 4);
    }

    private void setScore() {
        c.at("promise 26");
        ForesightHub x = Checks.hub("hub 1 1;pattern p 6 10 crc;device a 0;alarm 7 4;");
        x.fail(0, 0);
        c.due("setScore(6)", x.setScore(6), 7);
        alarmIs(x, 0, 0);
        c.due("size(7)", x.size(7), 6);
        c.due("size(9)", x.size(9), 2);
        x.fail(0, 1);
        alarmIs(x, 0, 1);
        c.due("setScore(999)", x.setScore(999), 6);
        alarmIs(x, 0, 1);
        c.due("setScore(1)", x.setScore(1), 999);
        c.due("setScore(1)", x.setScore(1), 1);
        c.due("size(9)", x.size(9), 6);
        c.thrown(x, "setScore(0)", ARGUMENT, () -> x.setScore(0));
        c.thrown(x, "setScore(1000)", ARGUMENT, () -> x.setScore(1000));
        c.thrown(x, "setScore(-5)", ARGUMENT, () -> x.setScore(-5));
    }

    private void eachChangeCounts() {
        c.at("terms, changes");
        ForesightHub x = Checks.hub("hub 1 2;device a 0;");
        x.frames(1);
        x.fail(0, 0);
        x.warn(0);
        x.callOff(0);
        x.unplug(0);
        x.plug(0, 1);
        x.setScore(10);
        c.due("size(9)", x.size(9), 7);
        x.saveSnapshot(0);
        x.weakest();
        Checks.append(x, "hub");
        c.due("size(9), these are no changes", x.size(9), 7);
    }
}
