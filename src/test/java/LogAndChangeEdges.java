import java.util.ArrayList;
import java.util.List;
import java.util.function.Consumer;
import java.util.function.Supplier;

/** The paragraphs LOG and CHANGES, promises 27 to 29, the constant, and the number of calls. */
final class LogAndChangeEdges extends Edges {
    LogAndChangeEdges(Checks checks, Sentences sentences) {
        super(checks, sentences);
    }

    @Override
    void run() {
        latest24();
        eventsOfDevices();
        eventsOfStreams();
        orderAtAnUnplugging();
        orderOfThings();
        firstSettlingTells();
        changes();
        changesThatAlterNothing();
        notChanges();
        latest10();
        twoSlots();
        snapshotHoldsAll();
        parseBeginsAnew();
        exceptionChangesNothing();
        undo();
        undoOfNone();
        undoThenOthers();
        saveSnapshot();
        restoreSnapshot();
        restoreClearsHistory();
        noSuchSlot();
        none();
        manyCalls();
    }

    private void latest24() {
        at("LOG", "The latest 24 events are kept:");
        ForesightHub x = hub("hub 1 1;device a 0;alarm 999 99;");
        for (int count = 0; count <= 60; count++) {
            for (int k = -1; k <= 25; k++) {
                int number = count - 1 - k;
                boolean there = k >= 0 && k < 24 && number >= 0;
                due("event(" + k + ", 0) of " + count, x.event(k, 0), there ? number % 2 : -1);
                due("event(" + k + ", 1) of " + count, x.event(k, 1), there ? 0 : -1);
                due("event(" + k + ", 2) of " + count, x.event(k, 2), there ? number : -1);
            }
            if (count % 2 == 0) {
                x.warn(0);
            } else {
                x.callOff(0);
            }
            x.frames(1);
        }
        // more than are kept by a single change
        StringBuilder text = new StringBuilder("hub 12 1;device a 0;");
        for (int i = 0; i < 12; i++) {
            text.append("stream ").append((char) ('a' + i)).append(" a 1 2;");
        }
        ForesightHub y = hub(text.toString());
        y.frames(1);
        y.unplug(0);
        due("event(23, 0), the last of the first settling", y.event(23, 0), 6);
        due("event(23, 1)", y.event(23, 1), 1);
        due("event(24, 0)", y.event(24, 0), -1);
        due("event(12, 0)", y.event(12, 0), 3);
        due("event(11, 1)", y.event(11, 1), 0);
        due("event(0, 1)", y.event(0, 1), 11);
    }

    private void eventsOfDevices() {
        at("LOG", "0 an alarm begins, 1 it is over as a wrong one, 2 as a right one, 3 a device is unplugged without an "
                + "alarm (each with its device);");
        ForesightHub x = hub("hub 1 8;pattern p 5 9 crc;device a 0;device b 1;device c 2;device d 3;device e 4;"
                + "device f 5;device g 6;device h 7;alarm 5 2;");
        x.fail(7, 0);
        x.warn(0);
        x.frames(1);
        x.callOff(0);
        x.unplug(7);
        x.unplug(6);
        x.warn(5);
        x.frames(2);
        logIs(x, e(0, 7, 0), e(0, 0, 0), e(1, 0, 1), e(2, 7, 1), e(3, 6, 1), e(0, 5, 1), e(1, 5, 3));
        accountsAre(x, 3, 2, 1, 1, 0, 0, 0, 0, 0, 1);
    }

    private void eventsOfStreams() {
        at("LOG", "4 a stream is handed over, 5 it waits because of settling, 6 it is held after it waited, 7 its packet "
                + "is torn (each with its stream).");
        ForesightHub x = hub("hub 20 2;device a 0;device b 1 heir a;stream s a 2 9;stream t b 3 3;alarm 9 99;");
        x.warn(1);
        x.warn(0);
        x.callOff(1);
        x.frames(1);
        x.callOff(0);
        x.frames(1);
        x.unplug(0);
        logIs(x, e(6, 0, 0), e(6, 1, 0), e(0, 1, 0), e(4, 1, 0), e(0, 0, 0), e(5, 0, 0), e(5, 1, 0), e(1, 1, 0),
                e(6, 1, 0), e(1, 0, 1), e(6, 0, 1), e(3, 0, 2), e(7, 0, 2));
        accountsAre(x, 2, 2, 0, 1, 1, 2, 4, 1, 2, 0);
        // a stream that only becomes ending, or running again, tells nothing
        ForesightHub y = hub("hub 20 2;device a 0;device b 1 heir a;stream t b 3 9;alarm 9 99;");
        y.frames(1);
        y.warn(1);
        y.callOff(1);
        logIs(y, e(6, 0, 0), e(0, 1, 1), e(1, 1, 1));
    }

    private void orderAtAnUnplugging() {
        at("LOG", "at an unplugging 2 or 3, then 7 in ascending order of streams, then those of settling;");
        String text = "hub 20 2;device a 0;device b 1 heir a;stream s a 10 99;stream t b 2 9;stream u b 3 3;"
                + "stream v b 4 9;stream w a 4 9;alarm 9 99;";
        ForesightHub x = hub(text);
        x.frames(1);
        x.unplug(1);
        eventsAre(x, e(6, 3, 0), e(3, 1, 1), e(7, 1, 1), e(7, 3, 1), e(6, 1, 1), e(6, 2, 1), e(6, 3, 1));
        ForesightHub y = hub(text);
        y.frames(1);
        y.warn(1);
        y.unplug(1);
        // u went to a ahead of it
        eventsAre(y, e(0, 1, 1), e(4, 2, 1), e(2, 1, 1), e(7, 1, 1), e(7, 3, 1), e(6, 1, 1), e(6, 3, 1));
        // room is made for streams of other devices
        ForesightHub z = hub(text);
        z.frames(1);
        z.unplug(0);
        eventsAre(z, e(3, 0, 1), e(7, 0, 1));
        z.undo();
        z.warn(1);
        z.unplug(0);
        eventsAre(z, e(4, 2, 1), e(3, 0, 1), e(7, 0, 1));
        z.plug(0, 0);
        eventsAre(z, e(7, 0, 1), e(6, 0, 1), e(6, 2, 1));
    }

    private void orderOfThings() {
        at("LOG", "They come in the order in which things happen:");
        // at the end of a frame: the alarms in ascending order, then the held streams, then those that wait
        ForesightHub x = hub("hub 20 4;device a 0;device b 1 heir a;device c 2;device d 3;stream s c 5 5;stream t b 5 5;"
                + "stream u c 5 5;stream v d 6 6;stream w b 4 4;alarm 9 3;");
        logIs(x, e(6, 0, 0), e(6, 1, 0), e(6, 2, 0), e(6, 4, 0));
        x.warn(2);
        // v takes the room of s and u
        eventsAre(x, e(0, 2, 0), e(5, 0, 0), e(5, 2, 0), e(6, 3, 0));
        x.warn(1);
        eventsAre(x, e(0, 1, 0), e(4, 1, 0), e(4, 4, 0));
        x.frames(3);
        eventsAre(x, e(1, 1, 3), e(1, 2, 3), e(4, 1, 3), e(4, 4, 3), e(6, 0, 3));
        // an alarm by an error, and then the settling
        ForesightHub y = hub("hub 20 2;pattern p 9 9 crc;device a 0;device b 1 heir a;stream s b 5 5;alarm 9 3;");
        y.fail(1, 0);
        logIs(y, e(6, 0, 0), e(0, 1, 0), e(4, 0, 0));
    }

    private void firstSettlingTells() {
        at("LOG", "also the first settling tells them.");
        StringBuilder text = new StringBuilder("hub 12 1;device a 0;");
        for (int count = 0; count <= 12; count++) {
            ForesightHub x = hub(text.toString());
            int[][] events = new int[count][];
            for (int i = 0; i < count; i++) {
                events[i] = e(6, i, 0);
            }
            logIs(x, events);
            accountsAre(x, 0, 0, 0, 0, 0, 0, count, 0, 0, 0);
            text.append("stream ").append((char) ('a' + count)).append(" a 1 2;");
        }
    }

    /** A change of each sort that succeeds in the busy hub. */
    private static List<Consumer<ForesightHub>> eachChange() {
        return List.of(x -> x.frames(1), x -> x.frames(200), x -> x.fail(0, 0), x -> x.fail(1, 3), x -> x.warn(0),
                x -> x.callOff(1), x -> x.unplug(0), x -> x.unplug(1), x -> x.plug(2, 2), x -> x.plug(2, 3),
                x -> x.setScore(1), x -> x.setScore(999));
    }

    /** An error comes to the first device that is plugged in. */
    private static void failOne(ForesightHub x) {
        int device = 0;
        while (x.device(device, 0) == ForesightHub.NONE) {
            device++;
        }
        x.fail(device, 2);
    }

    private static List<String> stateOf(ForesightHub x) {
        List<String> all = new ArrayList<>(Checks.allOf(x));
        all.removeIf(answer -> answer.startsWith("size 9 "));
        return all;
    }

    private void changes() {
        at("CHANGES", "The methods from frames to setScore are changes if they succeed,");
        for (Consumer<ForesightHub> change : eachChange()) {
            ForesightHub x = busy.get();
            List<String> before = stateOf(x);
            sizeIs(x, 9, 8);
            change.accept(x);
            sizeIs(x, 9, 9);
            due("it altered something", stateOf(x).equals(before), false);
            due("undo()", x.undo(), 8);
            due("all behind undo()", deepOf(x), deepOf(busy.get()));
        }
    }

    private void changesThatAlterNothing() {
        at("CHANGES", "also if they alter nothing.");
        ForesightHub x = hub("hub 1 1;device a 0;alarm 7 7;");
        List<String> before = stateOf(x);
        x.setScore(7);
        due("all as it was", stateOf(x), before);
        sizeIs(x, 9, 1);
        x.setScore(7);
        sizeIs(x, 9, 2);
        x.frames(1);
        due("undo()", x.undo(), 2);
        due("undo()", x.undo(), 1);
        due("undo()", x.undo(), 0);
        due("undo()", x.undo(), -1);
        due("all as it was", stateOf(x), before);
    }

    private void notChanges() {
        at("CHANGES", "The methods from frames to setScore are changes");
        ForesightHub x = busy.get();
        Checks.allOf(x);
        x.append(0, 0, 0, 0, 0);
        x.saveSnapshot(0);
        x.saveSnapshot(1);
        x.saveSnapshot(2);
        x.restoreSnapshot(2);
        sizeIs(x, 9, 8);
        x.parse(1);
        sizeIs(x, 9, 8);
    }

    private void latest10() {
        at("CHANGES", "The latest 10 changes can be undone, the latest first.");
        for (int count : new int[] {0, 1, 9, 10, 11, 12, 20, 21, 35}) {
            ForesightHub x = hub("hub 1 1;device a 0;");
            List<List<String>> states = new ArrayList<>();
            for (int i = 0; i < count; i++) {
                states.add(stateOf(x));
                x.frames(i + 1);
                sizeIs(x, 9, Math.min(10, i + 1));
            }
            int undone = Math.min(10, count);
            for (int left = undone - 1; left >= 0; left--) {
                due("undo() of " + count, x.undo(), left);
                due("all behind it", stateOf(x), states.get(count - undone + left));
            }
            due("undo() of none", x.undo(), -1);
            due("all behind it", stateOf(x), count == 0 ? stateOf(x) : states.get(count - undone));
        }
    }

    private void twoSlots() {
        at("CHANGES", "There are two snapshot slots, 0 and 1;");
        ForesightHub x = hub("hub 1 1;device a 0;");
        x.frames(1);
        due("saveSnapshot(0)", x.saveSnapshot(0), true);
        due("restoreSnapshot(1), which is empty", x.restoreSnapshot(1), false);
        x.frames(2);
        due("saveSnapshot(1)", x.saveSnapshot(1), true);
        due("saveSnapshot(-1)", x.saveSnapshot(-1), false);
        due("saveSnapshot(2)", x.saveSnapshot(2), false);
        x.frames(4);
        due("restoreSnapshot(0)", x.restoreSnapshot(0), true);
        sizeIs(x, 5, 1);
        due("restoreSnapshot(1)", x.restoreSnapshot(1), true);
        sizeIs(x, 5, 3);
        due("restoreSnapshot(-1)", x.restoreSnapshot(-1), false);
        due("restoreSnapshot(2)", x.restoreSnapshot(2), false);
        sizeIs(x, 5, 3);
    }

    private void snapshotHoldsAll() {
        at("CHANGES", "a snapshot holds everything that changes can change, the log and the accounts, too.");
        for (Consumer<ForesightHub> change : eachChange()) {
            ForesightHub x = busy.get();
            List<String> before = stateOf(x);
            x.saveSnapshot(1);
            change.accept(x);
            x.frames(3);
            failOne(x);
            due("restoreSnapshot(1)", x.restoreSnapshot(1), true);
            due("all behind it", stateOf(x), before);
        }
        // rows that are full, and go round
        ForesightHub x = hub("hub 1 2;device a 0;device b 1;alarm 999 99;");
        for (int i = 0; i < 17; i++) {
            x.fail(0, i % 4);
            x.warn(1);
            x.callOff(1);
        }
        List<String> before = stateOf(x);
        x.saveSnapshot(0);
        for (int i = 0; i < 17; i++) {
            x.fail(0, 3 - i % 4);
            x.fail(1, i % 4);
            x.frames(1);
            x.warn(0);
            x.callOff(0);
            x.unplug(1);
            x.plug(1, 1);
        }
        due("restoreSnapshot(0)", x.restoreSnapshot(0), true);
        due("all behind it", stateOf(x), before);
        // what comes then comes behind what was restored
        x.warn(0);
        due("event(0, 1)", x.event(0, 1), 0);
        due("event(1, 1)", x.event(1, 1), 1);
        due("account(0)", x.account(0), 18);
        // couples that took the numbers of others, which were undone
        ForesightHub y = hub("hub 1 2;device a 0;device b 1;");
        y.fail(1, 3);
        y.fail(0, 2);
        y.saveSnapshot(1);
        y.undo();
        y.undo();
        y.fail(0, 1);
        y.fail(0, 0);
        y.restoreSnapshot(1);
        due("cause(0, 0)", y.cause(0, 0), 1);
        due("cause(0, 1)", y.cause(0, 1), 3);
        due("cause(1, 0)", y.cause(1, 0), 0);
        due("cause(1, 1)", y.cause(1, 1), 2);
        due("cause(2, 0)", y.cause(2, 0), -1);
    }

    private void parseBeginsAnew() {
        at("CHANGES", "A successful parse begins anew, clears the undo history and empties both slots.");
        ForesightHub x = busy.get();
        due("parse(20)", x.parse(20), 0);
        sizeIs(x, 9, 0);
        due("undo()", x.undo(), -1);
        due("restoreSnapshot(0)", x.restoreSnapshot(0), false);
        due("restoreSnapshot(1)", x.restoreSnapshot(1), false);
        sizeIs(x, 5, 0);
        accountsAre(x, 0, 0, 0, 0, 0, 0, 0, 0, 0, 0);
        ForesightHub y = busy.get();
        y.parse(0);
        Checks.parse(y, TextPromisesTest.TEXT);
        due("all as in a new object", deepOf(y), deepOf(hub(TextPromisesTest.TEXT)));
        // and one that does not succeed keeps all of them
        ForesightHub z = busy.get();
        z.parse(18);
        sizeIs(z, 9, 8);
        due("undo()", z.undo(), 7);
        due("restoreSnapshot(0)", z.restoreSnapshot(0), true);
        due("restoreSnapshot(1)", z.restoreSnapshot(1), true);
    }

    private void exceptionChangesNothing() {
        at("CHANGES", "A method that throws an exception changes nothing.");
        // with ten changes to be undone: a refused one pushes none of them out
        Supplier<ForesightHub> ten = () -> {
            ForesightHub x = busy.get();
            x.frames(1);
            x.fail(0, 1);
            return x;
        };
        refused(ten, "frames(0)", ARGUMENT, x -> x.frames(0));
        refused(ten, "fail(0, 4)", ARGUMENT, x -> x.fail(0, 4));
        refused(ten, "fail(2, 0)", STATE, x -> x.fail(2, 0));
        refused(ten, "warn(1)", STATE, x -> x.warn(1));
        refused(ten, "callOff(0)", STATE, x -> x.callOff(0));
        refused(ten, "unplug(2)", STATE, x -> x.unplug(2));
        refused(ten, "plug(0, 2)", STATE, x -> x.plug(0, 2));
        refused(ten, "setScore(0)", ARGUMENT, x -> x.setScore(0));
        refused(ten, "parse(21)", ARGUMENT, x -> x.parse(21));
        refused(ten, "size(10)", ARGUMENT, x -> x.size(10));
    }

    private void undo() {
        at(27, "Undoes the latest change that has not been undone.", "Returns the number of changes that can still be "
                + "undone;");
        ForesightHub x = hub("hub 1 1;device a 0;");
        x.frames(1);
        x.frames(2);
        x.frames(4);
        due("undo()", x.undo(), 2);
        sizeIs(x, 5, 3);
        due("undo()", x.undo(), 1);
        sizeIs(x, 5, 1);
        x.frames(8);
        sizeIs(x, 9, 2);
        due("undo()", x.undo(), 1);
        sizeIs(x, 5, 1);
        due("undo()", x.undo(), 0);
        sizeIs(x, 5, 0);
        // undone beyond the ten, and changed again: the ring of the ten is full once more
        ForesightHub y = hub("hub 1 1;device a 0;");
        for (int i = 0; i < 13; i++) {
            y.frames(1);
        }
        for (int left = 9; left >= 4; left--) {
            due("undo()", y.undo(), left);
        }
        for (int i = 0; i < 8; i++) {
            y.frames(10);
            sizeIs(y, 9, Math.min(10, 5 + i));
        }
        sizeIs(y, 5, 87);
        int[] times = {77, 67, 57, 47, 37, 27, 17, 7, 6, 5};
        for (int i = 0; i < 10; i++) {
            due("undo()", y.undo(), 9 - i);
            sizeIs(y, 5, times[i]);
        }
        due("undo()", y.undo(), -1);
        sizeIs(y, 5, 5);
    }

    private void undoOfNone() {
        at(27, "NONE if there was none to undo.");
        idle(() -> hub("hub 1 1;device a 0;"), "undo() behind parse", -1, ForesightHub::undo);
        Supplier<ForesightHub> undone = () -> {
            ForesightHub x = busy.get();
            for (int i = 0; i < 8; i++) {
                x.undo();
            }
            return x;
        };
        idle(undone, "undo() behind the undo of all", -1, ForesightHub::undo);
        Supplier<ForesightHub> restored = () -> {
            ForesightHub x = busy.get();
            x.restoreSnapshot(0);
            return x;
        };
        idle(restored, "undo() behind restoreSnapshot", -1, ForesightHub::undo);
    }

    private void undoThenOthers() {
        at(27, "Undoes the latest change that has not been undone.");
        // slots and buffer are not undone
        ForesightHub x = hub("hub 1 1;device a 0;");
        x.frames(1);
        x.saveSnapshot(1);
        Checks.append(x, "hub 5 5;");
        due("undo()", x.undo(), 0);
        sizeIs(x, 5, 0);
        due("append", x.append(0, 0, 0, 0, 0), 40);
        due("restoreSnapshot(1)", x.restoreSnapshot(1), true);
        sizeIs(x, 5, 1);
        due("parse(8)", x.parse(8), 0);
        sizeIs(x, 3, 5);
    }

    private void saveSnapshot() {
        at(28, "Saves a snapshot, in place of what the slot held before.", "`slot`: 0 or 1", "Returns true;");
        for (int slot = 0; slot <= 1; slot++) {
            ForesightHub x = hub("hub 1 1;device a 0;");
            x.frames(1);
            due("saveSnapshot", x.saveSnapshot(slot), true);
            x.frames(1);
            due("saveSnapshot in place of it", x.saveSnapshot(slot), true);
            sizeIs(x, 9, 2);
            x.frames(1);
            due("restoreSnapshot of the other slot", x.restoreSnapshot(1 - slot), false);
            due("restoreSnapshot", x.restoreSnapshot(slot), true);
            sizeIs(x, 5, 2);
        }
        // of a hub in which nothing has been changed, too
        ForesightHub y = new ForesightHub();
        due("saveSnapshot(0)", y.saveSnapshot(0), true);
        y.frames(9);
        due("restoreSnapshot(0)", y.restoreSnapshot(0), true);
        sizeIs(y, 5, 0);
    }

    private void restoreSnapshot() {
        at(29, "Restores a snapshot", "The snapshot stays in its slot.", "`slot`: 0 or 1", "Returns true;");
        for (int slot = 0; slot <= 1; slot++) {
            ForesightHub x = busy.get();
            x.saveSnapshot(slot);
            List<String> saved = stateOf(x);
            for (Consumer<ForesightHub> change : eachChange()) {
                change.accept(x);
                failOne(x);
                due("restoreSnapshot", x.restoreSnapshot(slot), true);
                due("all behind it", stateOf(x), saved);
            }
            // also behind an undo of the change that was saved
            x.frames(5);
            x.undo();
            due("restoreSnapshot", x.restoreSnapshot(slot), true);
            due("all behind it", stateOf(x), saved);
        }
    }

    private void restoreClearsHistory() {
        at(29, "and clears the undo history.");
        for (int changes : new int[] {0, 1, 10, 11}) {
            ForesightHub x = hub("hub 1 1;device a 0;");
            x.saveSnapshot(0);
            for (int i = 0; i < changes; i++) {
                x.frames(1);
            }
            due("restoreSnapshot(0)", x.restoreSnapshot(0), true);
            sizeIs(x, 9, 0);
            due("undo()", x.undo(), -1);
            sizeIs(x, 5, 0);
            x.frames(3);
            sizeIs(x, 9, 1);
            due("undo()", x.undo(), 0);
            sizeIs(x, 5, 0);
            due("undo()", x.undo(), -1);
        }
    }

    private void noSuchSlot() {
        at(28, "false if there is no such slot.");
        for (int slot : new int[] {-1, 2, 3, MIN, MAX}) {
            idle(busy, "saveSnapshot(" + slot + ")", false, x -> x.saveSnapshot(slot));
        }
        at(29, "false, with nothing changed, if there is no such slot or it is empty.");
        for (int slot : new int[] {-1, 2, 3, MIN, MAX}) {
            idle(busy, "restoreSnapshot(" + slot + ")", false, x -> x.restoreSnapshot(slot));
        }
        for (int slot = 0; slot <= 1; slot++) {
            int empty = slot;
            Supplier<ForesightHub> oneSaved = () -> {
                ForesightHub x = hub(TextPromisesTest.TEXT);
                x.frames(2);
                x.saveSnapshot(1 - empty);
                x.fail(0, 0);
                return x;
            };
            idle(oneSaved, "restoreSnapshot(" + slot + "), empty", false, x -> x.restoreSnapshot(empty));
        }
    }

    private void none() {
        at("CONSTANTS", "`NONE = -1`: What was asked for does not exist.");
        due("NONE", ForesightHub.NONE, -1);
        due("undo()", new ForesightHub().undo(), ForesightHub.NONE);
    }

    /** As many calls as are promised, the dearest ones among them: nothing wears out and nothing runs over. */
    private void manyCalls() {
        at("USE", "An object is used for at most 512 calls after it has been made; what later calls answer is free.");
        ForesightHub x = new ForesightHub();
        String text = "hub 999 1;device a 0;stream s a 999 1;";
        int calls = (text.length() + 19) / 20 + 1;
        due("parse", Checks.parse(x, text), 1);
        for (; calls < 512; calls++) {
            due("frames(200)", x.frames(200), 999);
        }
        sizeIs(x, 5, 200 * 509);
        due("packets(0)", x.packets(0), 999L * 200 * 509);
        ForesightHub y = hub("hub 9 1;device a 0;alarm 999 99;");
        for (int i = 0; i < 250; i++) {
            y.fail(0, 0);
            y.undo();
            y.fail(0, 3);
        }
        due("account(9)", y.account(9), 250);
        due("cause(0, 2)", y.cause(0, 2), 250);
        ForesightHub z = new ForesightHub();
        for (int i = 0; i < 256; i++) {
            due("append", z.append(i, i, i, i, i), 20);
            due("parse(20)", z.parse(20), Checks.fault(0, 1));
        }
    }
}
