/** The paragraph ERRORS, SCORES, ALARMS. */
final class ErrorEdges extends Edges {
    ErrorEdges(Checks checks, Sentences sentences) {
        super(checks, sentences);
    }

    @Override
    void run() {
        kinds();
        time();
        latestTwelve();
        latestTwelveOfEach();
        oldestOfTwelve();
        sincePluggedIn();
        firstPorts();
        within();
        withinOfSeveral();
        inTheirOrder();
        othersBetween();
        scoreIsSum();
        calmAtFirst();
        alarmBegins();
        noAlarmWithoutError();
        graceSinceBeginning();
        graceSinceLatestError();
        graceOverWithinOneCall();
        endsInAscendingOrder();
        calledOff();
        forgottenAtTheEnd();
        endsAsRight();
    }

    private void kinds() {
        at("ERRORS", "The errors crc, stall, jitter and power have the kinds 0 to 3.");
        String[] words = {"crc", "stall", "jitter", "power"};
        for (int kind = 0; kind <= 3; kind++) {
            for (int other = 0; other <= 3; other++) {
                ForesightHub x = hub("hub 1 1;pattern p 7 9 " + words[kind] + ";device a 0;");
                due("fail(0, " + other + ") for " + words[kind], x.fail(0, other), other == kind ? 7 : 0);
                due("error(0, 0, 0)", x.error(0, 0, 0), other);
            }
        }
        ForesightHub x = hub("hub 1 1;pattern p 7 9 power jitter stall crc;device a 0;");
        int[] scores = {0, 0, 0, 7};
        for (int i = 0; i <= 3; i++) {
            due("fail(0, " + (3 - i) + ")", x.fail(0, 3 - i), scores[i]);
        }
    }

    private void time() {
        at("ERRORS", "The time is the number of frames that have passed.");
        ForesightHub x = hub("hub 1 1;device a 0;");
        sizeIs(x, 5, 0);
        x.fail(0, 1);
        x.warn(0);
        sizeIs(x, 5, 0);
        x.frames(1);
        sizeIs(x, 5, 1);
        x.frames(200);
        sizeIs(x, 5, 201);
        due("parse", Checks.parse(x, "hub 1 1;"), 0);
        sizeIs(x, 5, 0);
    }

    private void latestTwelve() {
        at("ERRORS", "Of each device its latest 12 errors since it was plugged in are kept, with their times.");
        ForesightHub x = hub("hub 1 2;device a 0;device b 1;alarm 999 99;");
        for (int count = 0; count <= 30; count++) {
            int kept = Math.min(count, 12);
            deviceIs(x, 0, 5, kept);
            for (int k = -1; k <= 13; k++) {
                boolean there = k >= 0 && k < kept;
                int number = count - 1 - k;
                due("error(0, " + k + ", 0) of " + count, x.error(0, k, 0), there ? number * 3 % 4 : -1);
                due("error(0, " + k + ", 1) of " + count, x.error(0, k, 1), there ? 2 * number : -1);
            }
            x.fail(0, count * 3 % 4);
            x.frames(2);
        }
        deviceIs(x, 1, 5, 0);
        // a pattern is as long as the oldest of the twelve is there
        ForesightHub y = hub("hub 1 1;pattern p 7 200 crc;device a 0;alarm 999 99;");
        for (int count = 1; count <= 13; count++) {
            due("fail, error " + count, y.fail(0, count == 1 ? 0 : 1), count <= 12 ? 7 : 0);
        }
    }

    private static String eightDevices(String patterns) {
        StringBuilder text = new StringBuilder("hub 1 8;" + patterns);
        for (int i = 0; i < 8; i++) {
            text.append("device ").append((char) ('a' + i)).append(' ').append(i).append(';');
        }
        return text + "alarm 999 99;";
    }

    /** Of a device whose error number i has the kind (i + device) % 4 and comes at the time i. */
    private void keptAre(ForesightHub x, int device, int came) {
        int kept = Math.min(12, came);
        deviceIs(x, device, 5, kept);
        for (int k = 0; k <= kept; k++) {
            int number = came - 1 - k;
            due("error(" + device + ", " + k + ", 0)", x.error(device, k, 0), k < kept ? (number + device) % 4 : -1);
            due("error(" + device + ", " + k + ", 1)", x.error(device, k, 1), k < kept ? number : -1);
        }
    }

    private void latestTwelveOfEach() {
        at("ERRORS", "Of each device its latest 12 errors since it was plugged in are kept");
        ForesightHub x = hub(eightDevices(""));
        for (int count = 1; count <= 15; count++) {
            for (int device = 0; device < 8; device++) {
                x.fail(device, (count - 1 + device) % 4);
            }
            for (int device = 0; device < 8; device++) {
                keptAre(x, device, count);
            }
            x.frames(1);
        }
        x.saveSnapshot(0);
        for (int device = 7; device >= 0; device--) {
            x.fail(device, (15 + device) % 4);
            keptAre(x, device, 16);
        }
        for (int device = 0; device < 8; device++) {
            due("undo()", x.undo(), 9 - device);
            keptAre(x, device, 15);
        }
        for (int device = 0; device < 8; device++) {
            x.unplug(device);
            x.plug(device, device);
            for (int i = 0; i < 13; i++) {
                x.fail(device, device % 4);
            }
        }
        x.restoreSnapshot(0);
        for (int device = 0; device < 8; device++) {
            keptAre(x, device, 15);
        }
    }

    /** The oldest of twelve errors counts as long as it is there, for all that scores are asked for. */
    private void oldestOfTwelve() {
        at("ERRORS", "A pattern matches a device if some of the kept errors of the device");
        ForesightHub x = hub(eightDevices("pattern p 7 200 crc stall;"));
        for (int device = 0; device < 8; device++) {
            x.fail(device, 0);
            for (int i = 0; i < 11; i++) {
                x.fail(device, 1);
            }
            deviceIs(x, device, 5, 12);
            deviceIs(x, device, 3, 7);
            deviceIs(x, device, 4, 1);
        }
        due("weakest(), all alike", x.weakest(), 0);
        for (int device = 0; device < 8; device++) {
            due("weakest()", x.weakest(), device);
            due("fail(" + device + ", 1)", x.fail(device, 1), 0);
            deviceIs(x, device, 3, 0);
            deviceIs(x, device, 4, 0);
        }
        due("weakest(), all alike", x.weakest(), 0);
        ForesightHub y = hub("hub 1 1;pattern p 7 200 crc power;device a 0;alarm 7 99;");
        y.fail(0, 0);
        for (int i = 0; i < 10; i++) {
            y.fail(0, 1);
        }
        due("a power as the twelfth error", y.fail(0, 3), 7);
        deviceIs(y, 0, 2, 1);
    }

    private void sincePluggedIn() {
        at("ERRORS", "its latest 12 errors since it was plugged in");
        ForesightHub x = hub("hub 1 1;pattern p 7 200 crc;device a 0;alarm 999 99;");
        for (int i = 0; i < 13; i++) {
            x.fail(0, 0);
        }
        x.unplug(0);
        deviceIs(x, 0, 5, 0);
        deviceIs(x, 0, 3, 0);
        due("error(0, 0, 0)", x.error(0, 0, 0), -1);
        x.plug(0, 0);
        deviceIs(x, 0, 5, 0);
        deviceIs(x, 0, 3, 0);
        x.frames(3);
        due("fail(0, 0)", x.fail(0, 0), 7);
        deviceIs(x, 0, 5, 1);
        due("error(0, 0, 1)", x.error(0, 0, 1), 3);
        due("error(0, 1, 1)", x.error(0, 1, 1), -1);
    }

    private void firstPorts() {
        at("ERRORS", "(At first each device is plugged in at its port.)");
        ForesightHub x = hub("hub 1 4;device a 3;device b 0;device c 2;");
        int[] devices = {1, -1, 2, 0};
        for (int port = 0; port <= 3; port++) {
            due("deviceAt(" + port + ")", x.deviceAt(port), devices[port]);
        }
        deviceIs(x, 0, 0, 3);
        deviceIs(x, 1, 0, 0);
        deviceIs(x, 2, 0, 2);
    }

    private void within() {
        at("ERRORS", "of which each has a time greater than the time now minus within");
        for (int within : new int[] {1, 2, 3, 199, 200}) {
            for (int start : new int[] {0, 1, 200}) {
                ForesightHub x = hub("hub 1 1;pattern p 7 " + within + " crc;device a 0;alarm 999 99;");
                if (start > 0) {
                    x.frames(start);
                }
                due("fail(0, 0)", x.fail(0, 0), 7);
                for (int frame = 1; frame <= within + 1; frame++) {
                    x.frames(1);
                    due("score " + frame + " frames later, within " + within, x.device(0, 3), frame < within ? 7 : 0);
                    due("bits " + frame + " frames later", x.device(0, 4), frame < within ? 1 : 0);
                }
                deviceIs(x, 0, 5, 1);
            }
        }
    }

    private void withinOfSeveral() {
        at("ERRORS", "some of the kept errors of the device, of which each has a time greater than");
        ForesightHub x = hub("hub 1 1;pattern p 7 4 crc stall;device a 0;alarm 999 99;");
        x.fail(0, 0);
        x.frames(3);
        due("the crc 3 frames ago, within 4", x.fail(0, 1), 7);
        x.frames(1);
        deviceIs(x, 0, 3, 0);
        due("a crc behind the stall", x.fail(0, 0), 0);
        due("a stall behind that", x.fail(0, 1), 7);
        ForesightHub y = hub("hub 1 1;pattern p 7 4 crc stall;device a 0;alarm 999 99;");
        y.fail(0, 0);
        y.frames(4);
        due("the crc 4 frames ago, within 4", y.fail(0, 1), 0);
        // an old error of the kind does not stand in the way of a later one
        ForesightHub z = hub("hub 1 1;pattern p 7 4 crc stall;device a 0;alarm 999 99;");
        z.fail(0, 0);
        z.frames(1);
        z.fail(0, 0);
        z.frames(3);
        due("the first crc too old, the second one not", z.fail(0, 1), 7);
    }

    private void inTheirOrder() {
        at("ERRORS", "are the errors of the pattern, one after the other in the order in which they came");
        ForesightHub x = hub("hub 1 1;pattern p 1 9 crc stall;pattern q 2 9 stall crc;pattern r 4 9 crc crc;"
                + "pattern s 8 9 stall stall stall;device a 0;alarm 999 99;");
        due("stall", x.fail(0, 1), 0);
        due("stall, crc", x.fail(0, 0), 2);
        due("stall, crc, stall", x.fail(0, 1), 3);
        due("stall, crc, stall, crc", x.fail(0, 0), 7);
        due("stall, crc, stall, crc, stall", x.fail(0, 1), 15);
        // of the same frame they have an order, too
        sizeIs(x, 5, 0);
        ForesightHub y = hub("hub 1 1;pattern p 1 9 crc stall jitter power crc;device a 0;alarm 999 99;");
        for (int kind : new int[] {0, 3, 2, 1, 0, 2, 3}) {
            due("fail(0, " + kind + ")", y.fail(0, kind), 0);
        }
        due("the last error of the pattern", y.fail(0, 0), 1);
        ForesightHub z = hub("hub 1 1;pattern p 1 9 crc crc crc crc crc;device a 0;alarm 999 99;");
        for (int count = 1; count <= 6; count++) {
            due("crc " + count, z.fail(0, 0), count >= 5 ? 1 : 0);
        }
    }

    private void othersBetween() {
        at("ERRORS", "A pattern matches a device if some of the kept errors of the device",
                "(there can be others between them).");
        for (int between = 0; between <= 12; between++) {
            ForesightHub x = hub("hub 1 1;pattern p 7 200 crc stall;device a 0;alarm 999 99;");
            x.fail(0, 0);
            for (int i = 0; i < between; i++) {
                due("jitter", x.fail(0, 2), 0);
                x.frames(1);
            }
            due("stall behind " + between + " others", x.fail(0, 1), between <= 10 ? 7 : 0);
        }
        ForesightHub y = hub("hub 1 1;pattern p 7 200 crc stall crc stall crc;device a 0;alarm 999 99;");
        for (int kind : new int[] {0, 3, 1, 1, 0, 2, 2, 1, 3, 3, 3}) {
            due("fail(0, " + kind + ")", y.fail(0, kind), 0);
        }
        due("the fifth of the pattern as the twelfth error", y.fail(0, 0), 7);
        due("a thirteenth: the first crc is gone", y.fail(0, 0), 0);
    }

    private void scoreIsSum() {
        at("ERRORS", "The score of a device is the sum of the weights of all patterns that match it.");
        StringBuilder text = new StringBuilder("hub 1 2;");
        for (int i = 0; i < 6; i++) {
            text.append("pattern ").append((char) ('a' + i)).append(" 99 ").append(i + 1).append(" crc;");
        }
        ForesightHub x = hub(text + "device a 0;device b 1;alarm 999 99;");
        deviceIs(x, 0, 3, 0);
        due("fail(0, 0), all match", x.fail(0, 0), 594);
        deviceIs(x, 0, 4, 63);
        deviceIs(x, 1, 3, 0);
        for (int left = 5; left >= 0; left--) {
            x.frames(1);
            deviceIs(x, 0, 3, 99 * left);
            deviceIs(x, 0, 4, 63 >> (6 - left) << (6 - left));
        }
        // each pattern counts once, however often it is there
        ForesightHub y = hub("hub 1 1;pattern p 1 9 crc;device a 0;alarm 999 99;");
        y.fail(0, 0);
        due("fail(0, 0) again", y.fail(0, 0), 1);
        ForesightHub z = hub("hub 1 1;device a 0;");
        due("fail(0, 0) without patterns", z.fail(0, 0), 0);
    }

    private void calmAtFirst() {
        at("ERRORS", "A device is in alarm or calm; at first it is calm.");
        ForesightHub x = hub("hub 1 2;device a 0;device b 1;alarm 1 1;");
        deviceIs(x, 0, 2, 0);
        deviceIs(x, 1, 2, 0);
        x.warn(1);
        deviceIs(x, 0, 2, 0);
        deviceIs(x, 1, 2, 1);
        due("parse", Checks.parse(x, "hub 1 2;device a 0;device b 1;"), 0);
        deviceIs(x, 1, 2, 0);
    }

    private void alarmBegins() {
        at("ERRORS", "An alarm begins if an error comes to a calm device and its score is at least the score of the "
                + "alarm then.");
        for (int score : new int[] {6, 7, 8}) {
            ForesightHub x = hub("hub 1 2;pattern p 7 9 crc;device a 0;device b 1;alarm " + score + " 9;");
            x.fail(0, 1);
            deviceIs(x, 0, 2, 0);
            x.fail(0, 0);
            deviceIs(x, 0, 2, score <= 7 ? 1 : 0);
            due("account(0)", x.account(0), score <= 7 ? 1 : 0);
            deviceIs(x, 1, 2, 0);
        }
        // the least and the greatest score of an alarm
        ForesightHub y = hub("hub 1 1;pattern p 1 9 crc;device a 0;alarm 1 9;");
        y.fail(0, 1);
        deviceIs(y, 0, 2, 0);
        y.fail(0, 0);
        deviceIs(y, 0, 2, 1);
        // in alarm no other one begins
        y.fail(0, 0);
        due("account(0)", y.account(0), 1);
        logIs(y, e(0, 0, 0));
        // the error that comes counts itself, and pushes out the oldest one
        ForesightHub z = hub("hub 1 1;pattern p 7 200 crc power;pattern q 1 200 crc;device a 0;alarm 7 99;");
        z.fail(0, 0);
        for (int i = 0; i < 11; i++) {
            z.fail(0, 1);
        }
        due("a power by which the crc goes", z.fail(0, 3), 0);
        deviceIs(z, 0, 2, 0);
    }

    private void noAlarmWithoutError() {
        at("ERRORS", "An alarm begins if an error comes to a calm device");
        ForesightHub x = hub("hub 1 1;pattern p 7 9 crc;device a 0;alarm 8 2;");
        x.fail(0, 0);
        x.setScore(1);
        deviceIs(x, 0, 2, 0);
        x.frames(2);
        deviceIs(x, 0, 2, 0);
        due("any error is enough", x.fail(0, 3), 7);
        deviceIs(x, 0, 2, 1);
        logIs(x, e(0, 0, 2));
    }

    private void graceSinceBeginning() {
        at("ERRORS", "as a wrong one, if the number of frames since its beginning",
                "is at least grace, at the end of a frame", "It is over");
        for (int grace : new int[] {1, 2, 5, 98, 99}) {
            ForesightHub x = hub("hub 1 1;device a 0;alarm 9 " + grace + ";");
            x.frames(3);
            x.warn(0);
            deviceIs(x, 0, 2, 1);
            if (grace > 1) {
                x.frames(grace - 1);
                deviceIs(x, 0, 2, 1);
                logIs(x, e(0, 0, 3));
            }
            x.frames(1);
            deviceIs(x, 0, 2, 0);
            logIs(x, e(0, 0, 3), e(1, 0, 3 + grace));
            x.frames(200);
            logIs(x, e(0, 0, 3), e(1, 0, 3 + grace));
        }
    }

    private void graceSinceLatestError() {
        at("ERRORS", ", and, if errors of the device are kept, also that since the latest of them,");
        for (int grace : new int[] {1, 2, 3, 99}) {
            // the latest error comes 1 frame before grace would be over; with 1 it comes with the beginning
            ForesightHub x = hub("hub 1 2;pattern p 7 200 crc;device a 0;device b 1;alarm 7 " + grace + ";");
            x.fail(0, 0);
            int latest = grace - 1;
            if (latest > 0) {
                x.frames(latest);
                x.fail(0, 1);
                // an error of another device does not count
                x.fail(1, 1);
                x.frames(latest);
            }
            deviceIs(x, 0, 2, 1);
            x.frames(1);
            deviceIs(x, 0, 2, 0);
            eventsAre(x, e(1, 0, latest + grace));
        }
        // an error before the beginning: the later of both counts
        ForesightHub y = hub("hub 1 1;device a 0;alarm 9 3;");
        y.fail(0, 0);
        y.frames(2);
        y.warn(0);
        y.frames(2);
        deviceIs(y, 0, 2, 1);
        y.frames(1);
        logIs(y, e(0, 0, 2), e(1, 0, 5));
        // not the oldest kept error, but the latest
        ForesightHub z = hub("hub 1 1;device a 0;alarm 9 3;");
        z.warn(0);
        for (int i = 0; i < 20; i++) {
            z.fail(0, i % 4);
            z.frames(2);
            deviceIs(z, 0, 2, 1);
        }
        z.frames(1);
        deviceIs(z, 0, 2, 0);
        logIs(z, e(0, 0, 0), e(1, 0, 41));
    }

    private void graceOverWithinOneCall() {
        at("ERRORS", "is at least grace, at the end of a frame");
        ForesightHub x = hub("hub 1 3;device a 0;device b 1;device c 2;alarm 9 4;");
        x.warn(2);
        x.frames(1);
        x.warn(0);
        x.frames(1);
        x.fail(0, 0);
        x.frames(200);
        logIs(x, e(0, 2, 0), e(0, 0, 1), e(1, 2, 4), e(1, 0, 6));
    }

    private void endsInAscendingOrder() {
        at("ERRORS", "(of several devices in ascending order)");
        ForesightHub x = hub("hub 1 4;device a 3;device b 2;device c 1;device d 0;alarm 9 2;");
        x.warn(3);
        x.warn(1);
        x.warn(2);
        x.warn(0);
        x.frames(2);
        eventsAre(x, e(1, 0, 2), e(1, 1, 2), e(1, 2, 2), e(1, 3, 2));
    }

    private void calledOff() {
        at("ERRORS", ", or if it is called off;");
        ForesightHub x = hub("hub 1 1;device a 0;alarm 9 99;");
        x.warn(0);
        x.callOff(0);
        deviceIs(x, 0, 2, 0);
        logIs(x, e(0, 0, 0), e(1, 0, 0));
        due("account(1)", x.account(1), 1);
        x.warn(0);
        x.frames(98);
        x.callOff(0);
        x.frames(1);
        eventsAre(x, e(0, 0, 0), e(1, 0, 98));
        accountsAre(x, 2, 2, 0, 0);
    }

    private void forgottenAtTheEnd() {
        at("ERRORS", "the kept errors of the device are forgotten then;");
        ForesightHub x = hub("hub 1 2;pattern p 7 200 crc;device a 0;device b 1;alarm 7 2;");
        x.fail(0, 0);
        x.fail(1, 1);
        x.frames(1);
        deviceIs(x, 0, 5, 1);
        deviceIs(x, 0, 3, 7);
        x.frames(1);
        deviceIs(x, 0, 5, 0);
        deviceIs(x, 0, 3, 0);
        due("error(0, 0, 0)", x.error(0, 0, 0), -1);
        deviceIs(x, 1, 5, 1);
        // an error behind the end is the first one again
        x.fail(0, 2);
        deviceIs(x, 0, 5, 1);
        due("error(0, 0, 0)", x.error(0, 0, 0), 2);
        due("error(0, 1, 0)", x.error(0, 1, 0), -1);
        x.warn(0);
        x.callOff(0);
        deviceIs(x, 0, 5, 0);
        // without an alarm nothing is forgotten
        x.frames(200);
        deviceIs(x, 1, 5, 1);
    }

    private void endsAsRight() {
        at("ERRORS", "as a right one, if the device is unplugged.");
        ForesightHub x = hub("hub 1 1;device a 0;alarm 9 2;");
        x.warn(0);
        x.unplug(0);
        deviceIs(x, 0, 2, 0);
        logIs(x, e(0, 0, 0), e(2, 0, 0));
        x.frames(5);
        x.plug(0, 0);
        deviceIs(x, 0, 2, 0);
        // one that is over is none at the unplugging
        x.warn(0);
        x.frames(2);
        x.unplug(0);
        logIs(x, e(0, 0, 0), e(2, 0, 0), e(0, 0, 5), e(1, 0, 7), e(3, 0, 7));
        accountsAre(x, 2, 1, 1, 1);
    }
}
