/** The paragraph STREAMS. */
final class StreamEdges extends Edges {
    StreamEdges(Checks checks, Sentences sentences) {
        super(checks, sentences);
    }

    @Override
    void run() {
        home();
        threeWays();
        reserved();
        neverMoreThanWhole();
        packetUnits();
        wantedIsHome();
        wantedIsHeir();
        wantedIsNone();
        heldIsRunning();
        heldIsEnding();
        handedOver();
        waitsWithoutWanted();
        firstPassAscending();
        waitingIsHeld();
        waitingHasNoRoom();
        firstSettling();
        frameTime();
        runningFrame();
        wholePackets();
        endingFrame();
        endingPacketSent();
        alarmsThenSettling();
        unplugged();
        torn();
    }

    private void home() {
        at("STREAMS", "A stream belongs to its home, the device that the text tells.");
        ForesightHub x = hub("hub 9 2;device a 0;device b 1 heir a;stream s b 1 5;stream t a 1 5;");
        streamIs(x, 0, 6, 1);
        streamIs(x, 1, 6, 0);
        x.unplug(1);
        streamIs(x, 0, 1, 0);
        streamIs(x, 0, 6, 1);
    }

    private void threeWays() {
        at("STREAMS", "It is waiting, or it is held by a device, and is running or ending then.");
        ForesightHub x = hub("hub 9 2;device a 0;device b 1 heir a;stream s b 4 5;stream t b 6 5;");
        goes(x, 0, 1, 1, 0, 0);
        goes(x, 1, 0, -1, 0, 0);
        x.frames(1);
        x.warn(1);
        goes(x, 0, 2, 1, 4, 0);
        goes(x, 1, 0, -1, 0, 0);
    }

    private void reserved() {
        at("STREAMS", "While it is held, its rate is reserved;");
        ForesightHub x = hub("hub 20 2;device a 0;device b 1 heir a;stream s b 4 5;stream t b 6 6;stream u a 3 9;");
        sizeIs(x, 6, 13);
        x.frames(1);
        x.warn(1);
        // s is ending, t is handed over, u is running
        sizeIs(x, 6, 13);
        deviceIs(x, 1, 7, 4);
        deviceIs(x, 0, 7, 9);
        x.warn(0);
        // t waits
        sizeIs(x, 6, 7);
        x.unplug(1);
        sizeIs(x, 6, 3);
        x.unplug(0);
        sizeIs(x, 6, 0);
    }

    private void neverMoreThanWhole() {
        at("STREAMS", "what is reserved is never more than whole together.");
        for (int rate = 9; rate <= 11; rate++) {
            ForesightHub x = hub("hub 20 1;device a 0;stream s a 10 3;stream t a " + rate + " 3;");
            sizeIs(x, 6, rate <= 10 ? 10 + rate : 10);
            streamIs(x, 1, 0, rate <= 10 ? 1 : 0);
        }
        ForesightHub x = hub("hub 999 1;device a 0;stream s a 999 1;stream t a 1 1;");
        sizeIs(x, 6, 999);
        streamIs(x, 1, 0, 0);
        ForesightHub y = hub("hub 1 1;device a 0;stream s a 1 1;stream t a 1 1;");
        sizeIs(y, 6, 1);
        streamIs(y, 1, 0, 0);
        // an ending stream keeps its rate from the others
        ForesightHub z = hub("hub 10 2;device a 0;device b 1;stream s a 6 60;stream t b 5 5;");
        z.frames(1);
        z.warn(0);
        streamIs(z, 1, 0, 0);
        z.unplug(0);
        streamIs(z, 1, 0, 1);
    }

    private void packetUnits() {
        at("STREAMS", "A packet has as many units as its size; of the packet that is begun some units are done (0 if "
                + "none is begun).");
        for (int packet = 1; packet <= 9; packet++) {
            ForesightHub x = hub("hub 9 1;device a 0;stream s a 1 " + packet + ";");
            for (int frame = 1; frame <= 20; frame++) {
                x.frames(1);
                goes(x, 0, 1, 0, frame % packet, frame / packet);
            }
        }
        ForesightHub x = hub("hub 9 1;device a 0;stream s a 1 9999;");
        for (int i = 0; i < 49; i++) {
            x.frames(200);
        }
        x.frames(198);
        goes(x, 0, 1, 0, 9998, 0);
        x.frames(1);
        goes(x, 0, 1, 0, 0, 1);
    }

    private static final String HEIRS = "hub 9 3;device a 0;device b 1 heir a;device c 2 heir b;stream s c 2 9;"
            + "stream t b 2 9;stream u a 2 9;";

    private void wantedAre(ForesightHub x, int first, int second, int third) {
        streamIs(x, 0, 2, first);
        streamIs(x, 1, 2, second);
        streamIs(x, 2, 2, third);
    }

    private void wantedIsHome() {
        at("STREAMS", "The wanted holder of a stream is its home, if that is plugged in and calm;");
        ForesightHub x = hub(HEIRS);
        wantedAre(x, 2, 1, 0);
        x.warn(2);
        wantedAre(x, 1, 1, 0);
        x.callOff(2);
        wantedAre(x, 2, 1, 0);
        x.unplug(2);
        wantedAre(x, 1, 1, 0);
        x.plug(2, 2);
        wantedAre(x, 2, 1, 0);
    }

    private void wantedIsHeir() {
        at("STREAMS", "otherwise the heir of its home, if there is one, and it is plugged in and calm;");
        ForesightHub x = hub(HEIRS);
        x.unplug(2);
        x.warn(1);
        // the heir of the heir is no heir
        wantedAre(x, -1, 0, 0);
        x.callOff(1);
        wantedAre(x, 1, 1, 0);
        x.unplug(1);
        wantedAre(x, -1, 0, 0);
        x.plug(1, 2);
        wantedAre(x, 1, 1, 0);
        x.warn(0);
        wantedAre(x, 1, 1, -1);
        x.warn(1);
        wantedAre(x, -1, -1, -1);
    }

    private void wantedIsNone() {
        at("STREAMS", "otherwise there is none.");
        ForesightHub x = hub(HEIRS);
        x.warn(0);
        wantedAre(x, 2, 1, -1);
        x.unplug(0);
        wantedAre(x, 2, 1, -1);
        x.unplug(1);
        wantedAre(x, 2, -1, -1);
        x.unplug(2);
        wantedAre(x, -1, -1, -1);
        goes(x, 0, 0, -1, 0, 0);
        x.plug(0, 0);
        wantedAre(x, -1, 0, 0);
    }

    private void heldIsRunning() {
        at("STREAMS", "a stream that is held is running from now on if its holder is the wanted one;",
                "To settle the streams means, for all streams in ascending order:");
        // an ending stream runs again when the alarm of its home is over, with what is done of its packet
        ForesightHub x = hub("hub 9 2;device a 0;device b 1 heir a;stream s b 2 9;alarm 9 3;");
        x.frames(1);
        x.warn(1);
        goes(x, 0, 2, 1, 2, 0);
        x.callOff(1);
        goes(x, 0, 1, 1, 2, 0);
        x.frames(1);
        goes(x, 0, 1, 1, 4, 0);
        // one that is ending at the heir runs again there when the home is away again
        x.unplug(1);
        x.frames(1);
        goes(x, 0, 1, 0, 2, 0);
        x.plug(1, 1);
        goes(x, 0, 2, 0, 2, 0);
        x.unplug(1);
        goes(x, 0, 1, 0, 2, 0);
        eventsAre(x, e(3, 1, 2), e(7, 0, 2), e(6, 0, 2), e(3, 1, 3));
    }

    private void heldIsEnding() {
        at("STREAMS", "otherwise it is ending, and if nothing of a packet is done, it is handed over:");
        for (int packet = 3; packet <= 5; packet++) {
            ForesightHub x = hub("hub 9 2;device a 0;device b 1 heir a;stream s b 4 " + packet + ";");
            x.frames(1);
            x.warn(1);
            // 4 units: one packet and 1 unit, one packet, 4 units
            if (packet == 4) {
                goes(x, 0, 1, 0, 0, 1);
            } else {
                goes(x, 0, 2, 1, 4 % packet, 4 / packet);
            }
        }
        ForesightHub x = hub("hub 9 2;device a 0;device b 1 heir a;stream s b 1 9999;");
        x.warn(1);
        goes(x, 0, 1, 0, 0, 0);
        x.callOff(1);
        goes(x, 0, 1, 1, 0, 0);
        x.frames(1);
        x.warn(1);
        goes(x, 0, 2, 1, 1, 0);
    }

    private void handedOver() {
        at("STREAMS", "it is held by the wanted holder, and running,");
        ForesightHub x = hub("hub 20 3;device a 0;device b 1 heir a;device c 2 heir a;stream s b 4 4;stream t c 3 3;"
                + "stream u a 2 2;alarm 9 99;");
        x.warn(1);
        deviceIs(x, 0, 6, 5);
        deviceIs(x, 1, 6, 0);
        deviceIs(x, 2, 6, 2);
        x.frames(1);
        goes(x, 0, 1, 0, 0, 1);
        x.warn(2);
        deviceIs(x, 0, 6, 7);
        logIs(x, e(6, 0, 0), e(6, 1, 0), e(6, 2, 0), e(0, 1, 0), e(4, 0, 0), e(0, 2, 1), e(4, 1, 1));
        // it goes over whatever is reserved, as its rate is reserved already
        ForesightHub y = hub("hub 9 2;device a 0;device b 1 heir a;stream s b 9 9;");
        y.warn(1);
        goes(y, 0, 1, 0, 0, 0);
        sizeIs(y, 6, 9);
    }

    private void waitsWithoutWanted() {
        at("STREAMS", "or, if there is none, it is waiting.");
        ForesightHub x = hub("hub 9 2;device a 0;device b 1 heir a;stream s b 4 4;alarm 9 99;");
        x.warn(0);
        goes(x, 0, 1, 1, 0, 0);
        x.warn(1);
        goes(x, 0, 0, -1, 0, 0);
        sizeIs(x, 6, 0);
        logIs(x, e(6, 0, 0), e(0, 0, 0), e(0, 1, 0), e(5, 0, 0));
        x.frames(2);
        goes(x, 0, 0, -1, 0, 0);
        x.callOff(0);
        goes(x, 0, 1, 0, 0, 0);
        eventsAre(x, e(5, 0, 0), e(1, 0, 2), e(6, 0, 2));
    }

    private void firstPassAscending() {
        at("STREAMS", "for all streams in ascending order:");
        // the rates of streams that wait because of this settling are free for all that wait, also for earlier ones
        ForesightHub x = hub("hub 10 2;device a 0;device b 1;stream s a 6 6;stream t b 5 5;stream u b 4 4;"
                + "stream v b 1 1;alarm 9 99;");
        x.unplug(0);
        deviceIs(x, 1, 6, 14);
        x.plug(0, 0);
        goes(x, 0, 0, -1, 0, 0);
        x.warn(1);
        eventsAre(x, e(0, 1, 0), e(5, 1, 0), e(5, 2, 0), e(5, 3, 0), e(6, 0, 0));
        goes(x, 0, 1, 0, 0, 0);
    }

    private void waitingIsHeld() {
        at("STREAMS", "Then, again in ascending order: a stream that waits and has a wanted holder is held by it, and "
                + "running, if the rate is not more than what is not reserved.");
        for (int free = 4; free <= 6; free++) {
            ForesightHub x = hub("hub 20 3;device a 0;device b 1;device c 2;stream s a " + (20 - free) + " 9;"
                    + "stream t b 5 9;");
            goes(x, 1, free >= 5 ? 1 : 0, free >= 5 ? 1 : -1, 0, 0);
            sizeIs(x, 6, free >= 5 ? 25 - free : 20 - free);
        }
        // the earlier one takes what the later one could have had
        ForesightHub x = hub("hub 10 2;device a 0;device b 1;stream s a 10 9;stream t b 6 9;stream u b 5 9;"
                + "stream v b 4 9;");
        x.unplug(0);
        deviceIs(x, 1, 6, 10);
        eventsAre(x, e(6, 0, 0), e(3, 0, 0), e(6, 1, 0), e(6, 3, 0));
        // a stream that waits for its heir is held by that
        ForesightHub y = hub("hub 10 2;device a 0;device b 1 heir a;stream s b 3 9;");
        y.frames(1);
        y.unplug(1);
        goes(y, 0, 1, 0, 0, 0);
        eventsAre(y, e(3, 1, 1), e(7, 0, 1), e(6, 0, 1));
    }

    private void waitingHasNoRoom() {
        at("STREAMS", "if the rate is not more than what is not reserved.");
        ForesightHub x = hub("hub 10 2;device a 0;device b 1;stream s a 5 9;stream t b 6 9;stream u b 5 9;");
        goes(x, 1, 0, -1, 0, 0);
        goes(x, 2, 1, 1, 0, 0);
        // it waits on while nothing is freed, however often the streams are settled
        x.frames(200);
        goes(x, 1, 0, -1, 0, 0);
        x.warn(0);
        // s has 1000 units, 1 of a packet: it is ending, and its rate stays reserved until it is over
        goes(x, 0, 2, 0, 1, 111);
        x.frames(1);
        goes(x, 0, 2, 0, 6, 111);
        goes(x, 1, 0, -1, 0, 0);
        x.frames(1);
        goes(x, 0, 0, -1, 0, 112);
        goes(x, 1, 0, -1, 0, 0);
        x.unplug(1);
        x.plug(1, 1);
        goes(x, 1, 1, 1, 0, 0);
        goes(x, 2, 0, -1, 0, 112);
    }

    private void firstSettling() {
        at("STREAMS", "At first all streams are waiting, and then they are settled.");
        ForesightHub x = hub("hub 10 2;device a 0;device b 1;stream s b 4 9;stream t a 7 9;stream u a 6 9;"
                + "stream v a 1 9;");
        goes(x, 0, 1, 1, 0, 0);
        goes(x, 1, 0, -1, 0, 0);
        goes(x, 2, 1, 0, 0, 0);
        goes(x, 3, 0, -1, 0, 0);
        sizeIs(x, 6, 10);
        sizeIs(x, 9, 0);
        logIs(x, e(6, 0, 0), e(6, 2, 0));
    }

    private void frameTime() {
        at("STREAMS", "In a frame the time rises by 1.");
        ForesightHub x = hub("hub 9 1;device a 0;stream s a 9 9;");
        for (int time = 1; time <= 3; time++) {
            x.frames(1);
            sizeIs(x, 5, time);
        }
        // what comes in a frame has the time that it rose to
        x.warn(0);
        x.frames(5);
        eventsAre(x, e(0, 0, 3), e(5, 0, 3), e(1, 0, 8), e(6, 0, 8));
    }

    private void runningFrame() {
        at("STREAMS", "Then each stream that is running gets its rate more units done;");
        ForesightHub x = hub("hub 10 1;device a 0;stream s a 1 9999;stream t a 2 9999;stream u a 7 9999;"
                + "stream v a 1 9999;");
        x.frames(1);
        goes(x, 0, 1, 0, 1, 0);
        goes(x, 1, 1, 0, 2, 0);
        goes(x, 2, 1, 0, 7, 0);
        goes(x, 3, 0, -1, 0, 0);
        x.frames(200);
        goes(x, 0, 1, 0, 201, 0);
        goes(x, 1, 1, 0, 402, 0);
        goes(x, 2, 1, 0, 1407, 0);
        goes(x, 3, 0, -1, 0, 0);
    }

    private void wholePackets() {
        at("STREAMS", "whole packets are sent, and the rest is done of the next one.");
        for (int packet = 1; packet <= 12; packet++) {
            ForesightHub x = hub("hub 9 1;device a 0;stream s a 5 " + packet + ";");
            for (int frame = 1; frame <= 12; frame++) {
                x.frames(1);
                goes(x, 0, 1, 0, 5 * frame % packet, 5 * frame / packet);
            }
        }
        ForesightHub x = hub("hub 999 1;device a 0;stream s a 999 1;");
        x.frames(1);
        goes(x, 0, 1, 0, 0, 999);
        ForesightHub y = hub("hub 999 1;device a 0;stream s a 999 998;");
        y.frames(1);
        goes(y, 0, 1, 0, 1, 1);
        ForesightHub z = hub("hub 999 1;device a 0;stream s a 999 1000;");
        z.frames(1);
        goes(z, 0, 1, 0, 999, 0);
        z.frames(1);
        goes(z, 0, 1, 0, 998, 1);
    }

    private void endingFrame() {
        at("STREAMS", "Each stream that is ending gets its rate more units done, but at most as many as are missing to "
                + "its packet;");
        // after a frame 5 units are done, and 4, 5 and 6 are missing
        for (int packet = 9; packet <= 11; packet++) {
            ForesightHub x = hub("hub 9 2;device a 0;device b 1 heir a;stream s b 5 " + packet + ";alarm 9 99;");
            x.frames(1);
            x.warn(1);
            goes(x, 0, 2, 1, 5, 0);
            x.frames(1);
            if (packet <= 10) {
                goes(x, 0, 1, 0, 0, 1);
            } else {
                goes(x, 0, 2, 1, 10, 0);
                x.frames(1);
                goes(x, 0, 1, 0, 0, 1);
            }
            x.frames(1);
            goes(x, 0, 1, 0, 5, 1);
        }
    }

    private void endingPacketSent() {
        at("STREAMS", "if none is missing then, the packet is sent, and nothing is done of the next one.");
        // a rate of many packets: an ending stream sends the one that is begun alone
        ForesightHub x = hub("hub 99 2;device a 0;device b 1 heir a;stream s b 50 3;alarm 9 99;");
        x.frames(1);
        goes(x, 0, 1, 1, 2, 16);
        x.warn(1);
        x.frames(1);
        goes(x, 0, 1, 0, 0, 17);
        x.frames(1);
        goes(x, 0, 1, 0, 2, 33);
        // without a wanted holder it waits then
        ForesightHub y = hub("hub 99 1;device a 0;stream s a 50 60;alarm 9 99;");
        y.frames(1);
        y.warn(0);
        y.frames(1);
        goes(y, 0, 0, -1, 0, 1);
        eventsAre(y, e(0, 0, 1), e(5, 0, 2));
    }

    private void alarmsThenSettling() {
        at("STREAMS", "Then the alarms that are over as wrong ones end, and the streams are settled.");
        // the packet is sent in the very frame in which the alarm is over: the stream stays with its home
        ForesightHub x = hub("hub 9 2;device a 0;device b 1 heir a;stream s b 4 8;alarm 9 1;");
        x.frames(1);
        x.warn(1);
        goes(x, 0, 2, 1, 4, 0);
        x.frames(1);
        goes(x, 0, 1, 1, 0, 1);
        logIs(x, e(6, 0, 0), e(0, 1, 1), e(1, 1, 2));
        // one that went to the heir comes back at the end of that frame if its packet is whole then
        for (int packet = 7; packet <= 9; packet++) {
            ForesightHub y = hub("hub 9 2;device a 0;device b 1 heir a;stream s b 4 " + packet + ";alarm 9 2;");
            y.warn(1);
            goes(y, 0, 1, 0, 0, 0);
            y.frames(2);
            if (packet == 8) {
                goes(y, 0, 1, 1, 0, 1);
                eventsAre(y, e(4, 0, 0), e(1, 1, 2), e(4, 0, 2));
            } else {
                goes(y, 0, 2, 0, 8 % packet, 8 / packet);
                eventsAre(y, e(4, 0, 0), e(1, 1, 2));
            }
        }
        // each frame of a call settles by itself
        ForesightHub z = hub("hub 9 2;device a 0;device b 1 heir a;stream s b 4 10;alarm 9 3;");
        z.frames(2);
        z.warn(1);
        z.frames(10);
        // 8 units, 2 more as an ending one at time 3, 8 at the heir at times 4 and 5, where b is calm again, 2 more as
        // an ending one at time 6, and then 4 in each of the last 6 frames
        goes(z, 0, 1, 1, 4, 4);
        logIs(z, e(6, 0, 0), e(0, 1, 2), e(4, 0, 3), e(1, 1, 5), e(4, 0, 6));
    }

    private void unplugged() {
        at("STREAMS", "If a device is unplugged, the streams that it holds wait from then on;");
        ForesightHub x = hub("hub 20 2;device a 0;device b 1;stream s b 4 9;stream t a 3 9;stream u b 2 2;");
        x.frames(1);
        x.unplug(1);
        goes(x, 0, 0, -1, 0, 0);
        goes(x, 1, 1, 0, 3, 0);
        goes(x, 2, 0, -1, 0, 1);
        sizeIs(x, 6, 3);
        // they wait without an event of their own
        eventsAre(x, e(6, 2, 0), e(3, 1, 1), e(7, 0, 1));
        x.frames(3);
        goes(x, 0, 0, -1, 0, 0);
        x.plug(1, 1);
        goes(x, 0, 1, 1, 0, 0);
        goes(x, 2, 1, 1, 0, 1);
        // also those that are not at home there
        ForesightHub y = hub("hub 20 2;device a 0;device b 1 heir a;stream s b 4 9;");
        y.warn(1);
        y.frames(1);
        y.unplug(0);
        goes(y, 0, 0, -1, 0, 0);
        y.callOff(1);
        goes(y, 0, 1, 1, 0, 0);
    }

    private void torn() {
        at("STREAMS", "of each of which some units are done, these are lost, and the packet is torn.");
        for (int packet = 3; packet <= 5; packet++) {
            ForesightHub x = hub("hub 9 2;device a 0;device b 1 heir a;stream s b 4 " + packet + ";");
            x.frames(1);
            int lost = 4 % packet;
            due("unplug(1), packets of " + packet, x.unplug(1), lost);
            accountsAre(x, 0, 0, 0, 1, 0, 0, 2, lost > 0 ? 1 : 0, lost, 0);
            goes(x, 0, 1, 0, 0, 4 / packet);
        }
        // an ending stream can be torn, too
        ForesightHub x = hub("hub 9 2;device a 0;device b 1 heir a;stream s b 4 99;");
        x.frames(1);
        x.warn(1);
        x.frames(1);
        due("unplug(1)", x.unplug(1), 8);
        logIs(x, e(6, 0, 0), e(0, 1, 1), e(2, 1, 2), e(7, 0, 2), e(6, 0, 2));
    }
}
