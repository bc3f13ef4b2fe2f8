/** Promises 9 to 19: errors and foresight. */
public final class ForesightPromisesTest {
    private static final Class<IllegalArgumentException> ARGUMENT = IllegalArgumentException.class;
    private static final Class<IndexOutOfBoundsException> INDEX = IndexOutOfBoundsException.class;

    private final Checks c = new Checks();

    public static void main(String[] args) {
        ForesightPromisesTest test = new ForesightPromisesTest();
        test.error();
        test.errorsAreForgotten();
        test.cause();
        test.patterns();
        test.windows();
        test.scoreWith();
        test.scoreWithTwelve();
        test.feared();
        test.framesToClear();
        test.atStake();
        test.weakest();
        test.whyNotRunning();
        test.event();
        test.account();
        test.rightShare();
        test.c.end();
    }

    private void error() {
        c.at("promise 9");
        ForesightHub x = Checks.hub("hub 1 2;device a 0;device b 1;");
        c.due("error(0, 0, 0)", x.error(0, 0, 0), -1);
        c.due("error(0, 0, 1)", x.error(0, 0, 1), -1);
        for (int i = 0; i < 12; i++) {
            x.fail(0, i % 4);
            x.frames(1);
        }
        c.due("error(0, 11, 0)", x.error(0, 11, 0), 0);
        c.due("error(0, 11, 1)", x.error(0, 11, 1), 0);
        x.fail(0, 3);
        x.fail(0, 1);
        c.due("device(0, 5)", x.device(0, 5), 12);
        c.due("error(0, 0, 0)", x.error(0, 0, 0), 1);
        c.due("error(0, 1, 0)", x.error(0, 1, 0), 3);
        c.due("error(0, 1, 1)", x.error(0, 1, 1), 12);
        c.due("error(0, 2, 0)", x.error(0, 2, 0), 3);
        c.due("error(0, 2, 1)", x.error(0, 2, 1), 11);
        c.due("error(0, 11, 0)", x.error(0, 11, 0), 2);
        c.due("error(0, 11, 1)", x.error(0, 11, 1), 2);
        c.due("error(0, 12, 0)", x.error(0, 12, 0), -1);
        c.due("error(0, -1, 1)", x.error(0, -1, 1), -1);
        c.due("error(0, MAX, 1)", x.error(0, Integer.MAX_VALUE, 1), -1);
        c.due("error(0, MIN, 1)", x.error(0, Integer.MIN_VALUE, 1), -1);
        c.due("error(1, 0, 0)", x.error(1, 0, 0), -1);
        x.fail(1, 2);
        c.due("error(1, 0, 0)", x.error(1, 0, 0), 2);
        c.due("error(1, 0, 1)", x.error(1, 0, 1), 12);
        c.due("error(1, 1, 0)", x.error(1, 1, 0), -1);
        c.due("error(0, 0, 0)", x.error(0, 0, 0), 1);
        c.thrown(x, "error(2, 0, 5)", INDEX, () -> x.error(2, 0, 5));
        c.thrown(x, "error(-1, 0, 0)", INDEX, () -> x.error(-1, 0, 0));
        c.thrown(x, "error(0, 0, 2)", ARGUMENT, () -> x.error(0, 0, 2));
        c.thrown(x, "error(0, -1, -1)", ARGUMENT, () -> x.error(0, -1, -1));
    }

    private void errorsAreForgotten() {
        c.at("promise 9, forgotten errors");
        ForesightHub x = Checks.hub("hub 1 2;device a 0;device b 1;alarm 10 3;");
        x.fail(0, 0);
        x.fail(1, 0);
        x.unplug(0);
        c.due("error(0, 0, 0) unplugged", x.error(0, 0, 0), -1);
        c.due("device(0, 5) unplugged", x.device(0, 5), 0);
        x.plug(0, 0);
        c.due("error(0, 0, 0) plugged in again", x.error(0, 0, 0), -1);
        c.due("error(1, 0, 0)", x.error(1, 0, 0), 0);
        x.fail(0, 1);
        x.warn(0);
        x.callOff(0);
        c.due("error(0, 0, 0) called off", x.error(0, 0, 0), -1);
        x.fail(0, 2);
        x.frames(2);
        c.due("error(0, 0, 0) kept without an alarm", x.error(0, 0, 0), 2);
        x.frames(10);
        c.due("error(0, 0, 0) kept for ever", x.error(0, 0, 0), 2);
        x.warn(0);
        x.frames(3);
        c.due("error(0, 0, 0) behind a wrong alarm", x.error(0, 0, 0), -1);
    }

    private void causeIs(ForesightHub x, int k, int device, int kind, int times) {
        c.due("cause(" + k + ", 0)", x.cause(k, 0), device);
        c.due("cause(" + k + ", 1)", x.cause(k, 1), kind);
        c.due("cause(" + k + ", 2)", x.cause(k, 2), times);
    }

    private void cause() {
        c.at("promise 10");
        ForesightHub x = Checks.hub("hub 1 8;device a 0;device b 1;device c 2;device d 3;"
                + "device e 4;device f 5;device g 6;device h 7;");
        causeIs(x, 0, -1, -1, -1);
        x.fail(2, 3);
        x.fail(0, 1);
        x.fail(2, 3);
        x.fail(2, 0);
        causeIs(x, 0, 2, 3, 2);
        causeIs(x, 1, 0, 1, 1);
        causeIs(x, 2, 2, 0, 1);
        causeIs(x, 3, -1, -1, -1);
        causeIs(x, -1, -1, -1, -1);
        x.unplug(2);
        x.plug(2, 2);
        for (int i = 0; i < 20; i++) {
            x.fail(2, 3);
        }
        causeIs(x, 0, 2, 3, 22);
        x.undo();
        causeIs(x, 0, 2, 3, 21);
        for (int device = 7; device >= 0; device--) {
            for (int kind = 0; kind < 4; kind++) {
                x.fail(device, kind);
            }
        }
        causeIs(x, 0, 2, 3, 22);
        causeIs(x, 2, 2, 0, 2);
        causeIs(x, 3, 7, 0, 1);
        causeIs(x, 31, 0, 3, 1);
        causeIs(x, 32, -1, -1, -1);
        causeIs(x, Integer.MAX_VALUE, -1, -1, -1);
        c.thrown(x, "cause(0, 3)", ARGUMENT, () -> x.cause(0, 3));
        c.thrown(x, "cause(-1, -1)", ARGUMENT, () -> x.cause(-1, -1));
    }

    private void patterns() {
        c.at("terms, patterns");
        ForesightHub x = Checks.hub("hub 1 1;pattern p 1 200 crc stall crc;pattern q 2 200 stall;"
                + "pattern r 4 200 power power power power power;pattern s 8 200 jitter crc;device a 0;alarm 999 99;");
        c.due("fail crc", x.fail(0, 0), 0);
        c.due("fail crc", x.fail(0, 0), 0);
        c.due("fail stall", x.fail(0, 1), 2);
        c.due("fail jitter, between the others", x.fail(0, 2), 2);
        c.due("fail crc", x.fail(0, 0), 11);
        c.due("bits", x.device(0, 4), 1 + 2 + 8);
        for (int i = 0; i < 4; i++) {
            c.due("fail power", x.fail(0, 3), 11);
        }
        c.due("fifth power", x.fail(0, 3), 15);
        c.due("bits", x.device(0, 4), 15);
        x.fail(0, 3);
        x.fail(0, 3);
        c.due("twelve errors, the first crc is there", x.device(0, 5), 12);
        c.due("fail power, the first crc is gone", x.fail(0, 3), 15);
        c.due("fail power, both first crc are gone", x.fail(0, 3), 14);
        c.due("fail power, the stall is gone", x.fail(0, 3), 12);
        c.due("fail power, the jitter is gone", x.fail(0, 3), 4);
    }

    private void windows() {
        c.at("terms, within");
        ForesightHub x = Checks.hub("hub 1 1;pattern p 1 3 crc;pattern q 2 1 stall;pattern r 4 5 crc stall;"
                + "pattern s 8 200 power;device a 0;alarm 999 99;");
        x.fail(0, 0);
        c.due("score", x.device(0, 3), 1);
        x.frames(2);
        c.due("score 2 frames later", x.device(0, 3), 1);
        c.due("fail stall", x.fail(0, 1), 7);
        x.frames(1);
        c.due("score 3 and 1 frames later", x.device(0, 3), 4);
        x.frames(1);
        c.due("score 4 frames later", x.device(0, 3), 4);
        x.frames(1);
        c.due("score 5 frames later", x.device(0, 3), 0);
        c.due("errors kept all the same", x.device(0, 5), 2);
        x.fail(0, 3);
        x.frames(199);
        c.due("score 199 frames later", x.device(0, 3), 8);
        x.frames(1);
        c.due("score 200 frames later", x.device(0, 3), 0);
    }

    private void scoreWith() {
        c.at("promise 11");
        ForesightHub x = Checks.hub("hub 1 3;pattern p 6 10 crc crc;pattern q 5 3 stall crc;pattern r 9 1 jitter;"
                + "device a 0;device b 1;alarm 40 4;");
        c.due("scoreWith(0, 0)", x.scoreWith(0, 0), 0);
        c.due("scoreWith(0, 2)", x.scoreWith(0, 2), 9);
        x.fail(0, 0);
        x.fail(0, 1);
        c.due("scoreWith(0, 0)", x.scoreWith(0, 0), 11);
        c.due("scoreWith(0, 1)", x.scoreWith(0, 1), 0);
        c.due("scoreWith(0, 2)", x.scoreWith(0, 2), 9);
        c.due("scoreWith(0, 3)", x.scoreWith(0, 3), 0);
        c.due("scoreWith(1, 0)", x.scoreWith(1, 0), 0);
        x.frames(3);
        c.due("scoreWith(0, 0) later", x.scoreWith(0, 0), 6);
        c.due("nothing came", x.device(0, 5), 2);
        x.warn(0);
        c.due("scoreWith(0, 0) in alarm", x.scoreWith(0, 0), 6);
        x.unplug(1);
        for (int kind = 0; kind < 4; kind++) {
            c.due("scoreWith(1, " + kind + ") unplugged", x.scoreWith(1, kind), -1);
        }
        c.thrown(x, "scoreWith(2, 9)", INDEX, () -> x.scoreWith(2, 9));
        c.thrown(x, "scoreWith(-1, 0)", INDEX, () -> x.scoreWith(-1, 0));
        c.thrown(x, "scoreWith(1, 4) unplugged", ARGUMENT, () -> x.scoreWith(1, 4));
        c.thrown(x, "scoreWith(0, -1)", ARGUMENT, () -> x.scoreWith(0, -1));
    }

    private void scoreWithTwelve() {
        c.at("promise 11, the twelfth error");
        ForesightHub x = Checks.hub("hub 1 1;pattern p 7 200 crc power;pattern q 1 200 power power;device a 0;"
                + "alarm 999 99;");
        x.fail(0, 0);
        for (int i = 0; i < 10; i++) {
            x.fail(0, 1);
        }
        c.due("scoreWith(0, 3) with 11 kept", x.scoreWith(0, 3), 7);
        x.fail(0, 3);
        c.due("score", x.device(0, 3), 7);
        c.due("scoreWith(0, 3) with 12 kept", x.scoreWith(0, 3), 1);
        c.due("scoreWith(0, 2) with 12 kept", x.scoreWith(0, 2), 0);
        c.due("score as before", x.device(0, 3), 7);
        c.due("fail(0, 3)", x.fail(0, 3), 1);
    }

    private void feared() {
        c.at("promise 12");
        ForesightHub x = Checks.hub("hub 1 2;pattern p 6 10 crc crc;pattern q 5 9 stall power;pattern r 1 9 power;"
                + "device a 0;device b 1;alarm 6 4;");
        c.due("feared(0)", x.feared(0), -1);
        x.fail(0, 1);
        c.due("feared(0), 5 and 1", x.feared(0), 3);
        x.fail(0, 0);
        c.due("feared(0), two crc first", x.feared(0), 0);
        c.due("feared(1)", x.feared(1), -1);
        x.setScore(7);
        c.due("feared(0) with the score 7", x.feared(0), -1);
        x.setScore(1);
        c.due("feared(1) with the score 1", x.feared(1), 3);
        x.warn(1);
        c.due("feared(1) in alarm", x.feared(1), -1);
        x.unplug(0);
        c.due("feared(0) unplugged", x.feared(0), -1);
        c.thrown(x, "feared(2)", INDEX, () -> x.feared(2));
        c.thrown(x, "feared(-1)", INDEX, () -> x.feared(-1));
        // a score that is there already begins no alarm by itself, but any error does
        ForesightHub y = Checks.hub("hub 1 1;pattern p 6 10 crc;device a 0;alarm 9 4;");
        y.fail(0, 0);
        y.setScore(6);
        c.due("feared(0) with the score there", y.feared(0), 0);
        c.due("device(0, 2)", y.device(0, 2), 0);
        y.fail(0, 3);
        c.due("device(0, 2) behind any error", y.device(0, 2), 1);
    }

    private void framesToClear() {
        c.at("promise 13");
        ForesightHub x = Checks.hub("hub 99 3;device a 0;device b 1;device c 2;stream s a 2 50;stream t a 7 29;"
                + "stream u b 5 5;stream v a 10 30;alarm 10 99;");
        c.due("framesToClear(0), nothing begun", x.framesToClear(0), 0);
        c.due("framesToClear(2), no streams", x.framesToClear(2), 0);
        x.frames(1);
        c.due("framesToClear(0), 48 by 2", x.framesToClear(0), 24);
        c.due("framesToClear(1), nothing begun", x.framesToClear(1), 0);
        x.frames(24);
        // s has none, t has 175 of which 1 is over 6 packets of 29, v has 250, of which 10 are over
        c.due("stream(1, 5)", x.stream(1, 5), 1);
        c.due("stream(3, 5)", x.stream(3, 5), 10);
        c.due("framesToClear(0), 28 by 7", x.framesToClear(0), 4);
        x.frames(1);
        c.due("framesToClear(0), 48 by 2 again", x.framesToClear(0), 24);
        x.warn(0);
        c.due("framesToClear(0), ending", x.framesToClear(0), 24);
        x.frames(23);
        c.due("framesToClear(0), nearly over", x.framesToClear(0), 1);
        c.due("device(0, 6)", x.device(0, 6), 1);
        x.unplug(0);
        c.due("framesToClear(0) unplugged", x.framesToClear(0), 0);
        ForesightHub y = Checks.hub("hub 5 1;device a 0;stream s a 5 7;stream t a 5 5;");
        y.frames(1);
        c.due("framesToClear(0), 2 by 5", y.framesToClear(0), 1);
        ForesightHub z = Checks.hub("hub 99 2;device a 0;device b 1;stream s a 1 7;stream t b 5 11;");
        z.frames(1);
        c.due("framesToClear(0), 6 by 1", z.framesToClear(0), 6);
        c.due("framesToClear(1), 6 by 5", z.framesToClear(1), 2);
        z.frames(1);
        c.due("framesToClear(1), 1 by 5", z.framesToClear(1), 1);
        c.thrown(x, "framesToClear(3)", INDEX, () -> x.framesToClear(3));
        c.thrown(x, "framesToClear(-1)", INDEX, () -> x.framesToClear(-1));
    }

    private void atStake() {
        c.at("promise 14");
        ForesightHub x = Checks.hub("hub 99 2;device a 0;device b 1 heir a;stream s b 2 50;stream t a 7 29;"
                + "stream u b 5 8;");
        c.due("atStake(1)", x.atStake(1), 0);
        x.frames(3);
        c.due("atStake(0)", x.atStake(0), 21);
        c.due("atStake(1)", x.atStake(1), 6 + 7);
        x.warn(1);
        x.frames(1);
        c.due("atStake(0)", x.atStake(0), 28);
        c.due("atStake(1), u is cleared", x.atStake(1), 8);
        x.frames(1);
        c.due("atStake(0), with u", x.atStake(0), 6 + 5);
        c.due("unplug(0) loses them", x.unplug(0), 11);
        c.due("atStake(0) unplugged", x.atStake(0), 0);
        c.thrown(x, "atStake(2)", INDEX, () -> x.atStake(2));
        c.thrown(x, "atStake(-1)", INDEX, () -> x.atStake(-1));
    }

    private void weakest() {
        c.at("promise 15");
        ForesightHub x = Checks.hub("hub 1 3;pattern p 6 3 crc;pattern q 5 9 stall;device a 0;device b 1;device c 2;"
                + "alarm 99 4;");
        c.due("weakest() without errors", x.weakest(), 0);
        x.fail(2, 1);
        c.due("weakest()", x.weakest(), 2);
        x.fail(1, 1);
        c.due("weakest() of two", x.weakest(), 1);
        x.fail(2, 0);
        c.due("weakest() with the greatest", x.weakest(), 2);
        x.frames(3);
        c.due("weakest() when one is old", x.weakest(), 1);
        x.unplug(1);
        c.due("weakest() unplugged", x.weakest(), 2);
        x.unplug(2);
        c.due("weakest()", x.weakest(), 0);
        x.unplug(0);
        c.due("weakest() with none", x.weakest(), -1);
        x.plug(1, 0);
        c.due("weakest()", x.weakest(), 1);
    }

    private void whyNotRunning() {
        c.at("promise 16");
        ForesightHub x = Checks.hub("hub 10 3;device a 0;device b 1 heir a;stream s b 4 9;stream t a 5 9;"
                + "stream u b 3 3;");
        c.due("whyNotRunning(0)", x.whyNotRunning(0), 0);
        c.due("whyNotRunning(2), no room", x.whyNotRunning(2), 3);
        x.frames(1);
        x.warn(1);
        c.due("whyNotRunning(0), ending", x.whyNotRunning(0), 4);
        c.due("whyNotRunning(2), no room", x.whyNotRunning(2), 3);
        x.warn(0);
        c.due("whyNotRunning(0), ending and the heir is in alarm", x.whyNotRunning(0), 2);
        c.due("whyNotRunning(1), ending without an heir", x.whyNotRunning(1), 1);
        c.due("whyNotRunning(2), waiting and the heir is in alarm", x.whyNotRunning(2), 2);
        x.unplug(0);
        c.due("whyNotRunning(1), waiting without an heir", x.whyNotRunning(1), 1);
        c.due("whyNotRunning(2), the heir is unplugged", x.whyNotRunning(2), 2);
        x.unplug(1);
        c.due("whyNotRunning(0), both unplugged", x.whyNotRunning(0), 2);
        x.plug(0, 2);
        c.due("whyNotRunning(0), held by the heir", x.whyNotRunning(0), 0);
        c.due("whyNotRunning(1), held by its home", x.whyNotRunning(1), 0);
        c.due("whyNotRunning(2), no room", x.whyNotRunning(2), 3);
        c.thrown(x, "whyNotRunning(3)", INDEX, () -> x.whyNotRunning(3));
        c.thrown(x, "whyNotRunning(-1)", INDEX, () -> x.whyNotRunning(-1));
    }

    private void eventIs(ForesightHub x, int k, int kind, int item, int time) {
        c.due("event(" + k + ", 0)", x.event(k, 0), kind);
        c.due("event(" + k + ", 1)", x.event(k, 1), item);
        c.due("event(" + k + ", 2)", x.event(k, 2), time);
    }

    private void event() {
        c.at("promise 17");
        ForesightHub x = Checks.hub("hub 30 3;device a 0;device b 1 heir a;device c 2;stream s b 4 9;stream t b 5 5;"
                + "stream u b 3 7;stream v b 8 40;stream w a 20 40;");
        // the first settling: w has no room
        eventIs(x, 0, 6, 3, 0);
        eventIs(x, 1, 6, 2, 0);
        eventIs(x, 3, 6, 0, 0);
        eventIs(x, 4, -1, -1, -1);
        eventIs(x, -1, -1, -1, -1);
        x.frames(1);
        x.unplug(1);
        // s, u and v are torn, and w is held by a only behind s, t and u: v has no room
        eventIs(x, 8, 6, 3, 0);
        eventIs(x, 7, 3, 1, 1);
        eventIs(x, 6, 7, 0, 1);
        eventIs(x, 5, 7, 2, 1);
        eventIs(x, 4, 7, 3, 1);
        eventIs(x, 3, 6, 0, 1);
        eventIs(x, 2, 6, 1, 1);
        eventIs(x, 1, 6, 2, 1);
        eventIs(x, 0, 6, 3, 1);
        x.plug(1, 1);
        eventIs(x, 3, 4, 0, 1);
        eventIs(x, 0, 4, 3, 1);
        x.warn(2);
        eventIs(x, 0, 0, 2, 1);
        x.unplug(2);
        eventIs(x, 0, 2, 2, 1);
        x.warn(0);
        x.warn(1);
        // without an heir that can hold them they wait because of settling
        eventIs(x, 4, 0, 1, 1);
        eventIs(x, 3, 5, 0, 1);
        eventIs(x, 0, 5, 3, 1);
        x.frames(5);
        // both alarms are over at the end of the frame, and then the streams are held again
        eventIs(x, 5, 1, 0, 6);
        eventIs(x, 4, 1, 1, 6);
        eventIs(x, 3, 6, 0, 6);
        eventIs(x, 0, 6, 3, 6);
        c.due("event(23, 0)", x.event(23, 0), 7);
        c.due("event(24, 0)", x.event(24, 0), -1);
        c.due("event(MAX, 0)", x.event(Integer.MAX_VALUE, 0), -1);
        c.thrown(x, "event(0, 3)", ARGUMENT, () -> x.event(0, 3));
        c.thrown(x, "event(-1, -1)", ARGUMENT, () -> x.event(-1, -1));
    }

    private void accountsAre(ForesightHub x, int... want) {
        for (int what = 0; what < want.length; what++) {
            c.due("account(" + what + ")", x.account(what), want[what]);
        }
    }

    private void account() {
        c.at("promise 18");
        ForesightHub x = Checks.hub("hub 30 3;pattern p 9 9 crc;device a 0;device b 1 heir a;stream s b 4 9;"
                + "stream t b 5 5;stream u a 3 7;alarm 9 4;");
        accountsAre(x, 0, 0, 0, 0, 0, 0, 3, 0, 0, 0);
        x.frames(1);
        x.fail(1, 1);
        x.fail(1, 0);
        // t goes to a, s is ending
        accountsAre(x, 1, 0, 0, 0, 1, 0, 3, 0, 0, 2);
        x.warn(0);
        // t waits, u is ending
        accountsAre(x, 2, 0, 0, 0, 1, 1, 3, 0, 0, 2);
        x.callOff(0);
        accountsAre(x, 2, 1, 0, 0, 1, 1, 4, 0, 0, 2);
        x.unplug(1);
        // s is torn with 4 units, and a takes it up
        accountsAre(x, 2, 1, 1, 0, 1, 1, 5, 1, 4, 2);
        x.frames(1);
        x.unplug(0);
        // s with 4 and u with 6 units are torn
        accountsAre(x, 2, 1, 1, 1, 1, 1, 5, 3, 14, 2);
        x.undo();
        accountsAre(x, 2, 1, 1, 0, 1, 1, 5, 1, 4, 2);
        // more events than are kept are counted all the same
        for (int i = 0; i < 30; i++) {
            x.warn(0);
            x.callOff(0);
        }
        c.due("account(0) of many", x.account(0), 32);
        c.due("account(1) of many", x.account(1), 31);
        c.thrown(x, "account(-1)", ARGUMENT, () -> x.account(-1));
        c.thrown(x, "account(10)", ARGUMENT, () -> x.account(10));
    }

    private void rightShare() {
        c.at("promise 19");
        ForesightHub x = Checks.hub("hub 1 2;device a 0;device b 1;");
        c.due("rightShare()", x.rightShare(), 0.0);
        x.warn(0);
        x.unplug(1);
        c.due("rightShare() with none over", x.rightShare(), 0.0);
        x.callOff(0);
        c.due("rightShare() of a wrong one", x.rightShare(), 0.0);
        x.warn(0);
        x.unplug(0);
        c.due("rightShare() of one and one", x.rightShare(), 0.5);
        x.plug(0, 0);
        x.warn(0);
        x.unplug(0);
        c.due("rightShare() of two and one", x.rightShare(), 2.0 / 3.0);
        ForesightHub y = Checks.hub("hub 1 2;device a 0;device b 1;");
        y.warn(0);
        y.unplug(0);
        c.due("rightShare() of a right one", y.rightShare(), 1.0);
    }
}
