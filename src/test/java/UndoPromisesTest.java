import java.util.ArrayList;
import java.util.List;

/** Promises 27 to 29: undo and snapshots. */
public final class UndoPromisesTest {
    private static final String TEXT = "hub 20 4;pattern p 6 10 crc crc;pattern q 5 3 stall crc;"
            + "device a 0;device b 1 heir a;device c 3 heir b;"
            + "stream s b 5 8;stream t b 4 4;stream u a 10 7;stream v c 2 50;alarm 6 4;";

    private final Checks c = new Checks();

    public static void main(String[] args) {
        UndoPromisesTest test = new UndoPromisesTest();
        test.undoEach();
        test.undoTen();
        test.undoThenChange();
        test.fullRows();
        test.saveSnapshot();
        test.restoreSnapshot();
        test.snapshotsAndUndo();
        test.c.end();
    }

    /** Each kind of change, one after the other; all of them alter something that can be asked for. */
    private void change(ForesightHub x, int number) {
        switch (number) {
            case 0 -> x.frames(1);
            case 1 -> x.fail(1, 0);
            case 2 -> x.fail(1, 0);
            case 3 -> x.callOff(1);
            case 4 -> x.warn(0);
            case 5 -> x.unplug(1);
            case 6 -> x.plug(1, 2);
            case 7 -> x.setScore(44);
            case 8 -> x.frames(5);
            default -> x.unplug(2);
        }
    }

    /** All that can be asked for but the number of changes that can be undone. */
    private static List<String> stateOf(ForesightHub x) {
        List<String> all = new ArrayList<>(Checks.allOf(x));
        all.removeIf(answer -> answer.startsWith("size 9 "));
        return all;
    }

    private void undoEach() {
        c.at("promise 27");
        ForesightHub x = Checks.hub(TEXT);
        c.due("undo() of nothing", x.undo(), -1);
        List<List<String>> states = new ArrayList<>();
        for (int number = 0; number < 10; number++) {
            states.add(stateOf(x));
            change(x, number);
            c.due("size(9)", x.size(9), number + 1);
            c.due("change " + number + " altered something", stateOf(x).equals(states.get(number)), false);
        }
        for (int number = 9; number >= 0; number--) {
            c.due("undo()", x.undo(), number);
            c.due("size(9)", x.size(9), number);
            c.due("all behind undo()", stateOf(x), states.get(number));
        }
        c.due("undo() of nothing", x.undo(), -1);
        c.due("all behind that", stateOf(x), states.get(0));
        for (int number = 0; number < 10; number++) {
            c.due("all before change " + number + " once more", stateOf(x), states.get(number));
            change(x, number);
        }
    }

    private void undoTen() {
        c.at("promise 27, the latest 10");
        ForesightHub x = Checks.hub(TEXT);
        for (int i = 1; i <= 25; i++) {
            x.frames(1);
            c.due("size(9)", x.size(9), Math.min(i, 10));
        }
        for (int left = 9; left >= 0; left--) {
            c.due("undo()", x.undo(), left);
            c.due("size(5)", x.size(5), 15 + left);
        }
        c.due("undo()", x.undo(), -1);
        c.due("size(5)", x.size(5), 15);
    }

    private void undoThenChange() {
        c.at("promise 27, changes behind undo");
        ForesightHub x = Checks.hub(TEXT);
        x.frames(1);
        x.frames(2);
        x.setScore(9);
        c.due("undo()", x.undo(), 2);
        c.due("undo()", x.undo(), 1);
        x.frames(10);
        c.due("size(9)", x.size(9), 2);
        c.due("size(5)", x.size(5), 11);
        // a call that throws is no change
        c.thrown(x, "frames(0)", IllegalArgumentException.class, () -> x.frames(0));
        c.thrown(x, "plug(0, 0)", IllegalStateException.class, () -> x.plug(0, 0));
        c.due("undo()", x.undo(), 1);
        c.due("size(5)", x.size(5), 1);
        c.due("undo()", x.undo(), 0);
        c.due("size(5)", x.size(5), 0);
        c.due("undo()", x.undo(), -1);
        // a change that alters nothing is one
        x.setScore(6);
        c.due("size(9)", x.size(9), 1);
        c.due("undo()", x.undo(), 0);
    }

    /** Rows that are full, so that later events and errors stand where earlier ones stood. */
    private void fullRows() {
        c.at("promises 27 and 29, full rows");
        ForesightHub x = Checks.hub(TEXT);
        x.setScore(999);
        for (int i = 0; i < 14; i++) {
            x.fail(2, i % 3);
            x.warn(1);
            x.frames(1);
            x.callOff(1);
        }
        List<String> saved = stateOf(x);
        x.saveSnapshot(0);
        x.warn(0);
        x.frames(2);
        x.fail(2, 3);
        x.unplug(1);
        x.fail(0, 3);
        x.fail(2, 3);
        for (int left = 9; left >= 4; left--) {
            c.due("undo()", x.undo(), left);
        }
        c.due("all behind undo()", stateOf(x), saved);
        x.unplug(2);
        x.plug(2, 3);
        for (int i = 0; i < 14; i++) {
            x.frames(1);
            x.fail(2, 3);
            x.fail(1, i % 4);
            x.warn(0);
            x.callOff(0);
        }
        c.due("restoreSnapshot(0)", x.restoreSnapshot(0), true);
        c.due("all behind it", stateOf(x), saved);
    }

    private void saveSnapshot() {
        c.at("promise 28");
        ForesightHub x = Checks.hub(TEXT);
        x.frames(1);
        List<String> before = Checks.allOf(x);
        c.due("saveSnapshot(-1)", x.saveSnapshot(-1), false);
        c.due("saveSnapshot(2)", x.saveSnapshot(2), false);
        c.due("saveSnapshot(MAX)", x.saveSnapshot(Integer.MAX_VALUE), false);
        c.due("restoreSnapshot(0) behind these", x.restoreSnapshot(0), false);
        c.due("saveSnapshot(0)", x.saveSnapshot(0), true);
        c.due("saveSnapshot(1)", x.saveSnapshot(1), true);
        c.unchanged("saving, with what can be undone", x, before);
        x.frames(1);
        c.due("saveSnapshot(1) in place of the other", x.saveSnapshot(1), true);
        x.frames(1);
        c.due("restoreSnapshot(1)", x.restoreSnapshot(1), true);
        c.due("size(5)", x.size(5), 2);
        c.due("restoreSnapshot(0)", x.restoreSnapshot(0), true);
        c.due("size(5)", x.size(5), 1);
    }

    private void restoreSnapshot() {
        c.at("promise 29");
        ForesightHub x = Checks.hub(TEXT);
        for (int number = 0; number < 6; number++) {
            change(x, number);
        }
        List<String> saved = stateOf(x);
        x.saveSnapshot(1);
        List<String> before = Checks.allOf(x);
        c.due("restoreSnapshot(0), empty", x.restoreSnapshot(0), false);
        c.due("restoreSnapshot(-1)", x.restoreSnapshot(-1), false);
        c.due("restoreSnapshot(2)", x.restoreSnapshot(2), false);
        c.unchanged("these, with what can be undone", x, before);
        for (int number = 6; number < 10; number++) {
            change(x, number);
        }
        c.due("restoreSnapshot(1)", x.restoreSnapshot(1), true);
        c.due("all behind it", stateOf(x), saved);
        c.due("size(9)", x.size(9), 0);
        c.due("undo()", x.undo(), -1);
        c.due("all behind that", stateOf(x), saved);
        // the snapshot stays as it was, whatever is changed behind it
        for (int number = 6; number < 10; number++) {
            change(x, number);
        }
        c.due("restoreSnapshot(1) again", x.restoreSnapshot(1), true);
        c.due("all behind it again", stateOf(x), saved);
        c.due("restoreSnapshot(0), still empty", x.restoreSnapshot(0), false);
        // of the causes, another one came in the place of one that was undone
        ForesightHub y = Checks.hub(TEXT);
        y.fail(0, 3);
        y.fail(1, 2);
        y.saveSnapshot(0);
        y.undo();
        y.fail(2, 1);
        c.due("cause(1, 0)", y.cause(1, 0), 2);
        y.restoreSnapshot(0);
        c.due("cause(1, 0) restored", y.cause(1, 0), 1);
        c.due("cause(1, 1) restored", y.cause(1, 1), 2);
        c.due("cause(2, 0) restored", y.cause(2, 0), -1);
    }

    private void snapshotsAndUndo() {
        c.at("promises 27 to 29 together");
        ForesightHub x = Checks.hub(TEXT);
        x.frames(1);
        x.saveSnapshot(0);
        x.frames(1);
        c.due("undo() over a saving", x.undo(), 1);
        c.due("undo() over a saving", x.undo(), 0);
        c.due("size(5)", x.size(5), 0);
        c.due("restoreSnapshot(0), saved behind a change that is undone", x.restoreSnapshot(0), true);
        c.due("size(5)", x.size(5), 1);
        x.frames(3);
        c.due("undo() of a change behind it", x.undo(), 0);
        c.due("size(5)", x.size(5), 1);
        Checks.parse(x, "hub 1 1;");
        c.due("restoreSnapshot(0) behind parse", x.restoreSnapshot(0), false);
    }
}
