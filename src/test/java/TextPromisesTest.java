import java.util.List;

/** Promises 1 to 8: the new object, the text and what is read of it. */
public final class TextPromisesTest {
    static final String TEXT = "hub 20 4;pattern p 6 10 crc crc;pattern q 5 3 stall crc;"
            + "device a 0;device b 1 heir a;device c 3 heir b;"
            + "stream s b 5 8;stream t b 4 4;stream u a 10 7;stream v c 2 50;alarm 6 4;";

    private static final Class<IllegalArgumentException> ARGUMENT = IllegalArgumentException.class;
    private static final Class<IndexOutOfBoundsException> INDEX = IndexOutOfBoundsException.class;

    private final Checks c = new Checks();

    public static void main(String[] args) {
        TextPromisesTest test = new TextPromisesTest();
        test.newObject();
        test.append();
        test.parse();
        test.parseBeginsAnew();
        test.syntaxFaults();
        test.unknownAndRepeated();
        test.names();
        test.cutRuns();
        test.fullHub();
        test.ranges();
        test.tooMany();
        test.tokens();
        test.size();
        test.deviceAt();
        test.device();
        test.stream();
        test.packets();
        test.c.end();
    }

    private void newObject() {
        c.at("promise 1");
        ForesightHub x = new ForesightHub();
        int[] want = {0, 0, 0, 1, 1, 0, 0, 10, 5, 0};
        for (int what = 0; what < want.length; what++) {
            c.due("size(" + what + ")", x.size(what), want[what]);
        }
        c.due("NONE", ForesightHub.NONE, -1);
        c.due("deviceAt(0)", x.deviceAt(0), -1);
        c.due("weakest()", x.weakest(), -1);
        c.due("event(0, 0)", x.event(0, 0), -1);
        c.due("cause(0, 0)", x.cause(0, 0), -1);
        c.due("rightShare()", x.rightShare(), 0.0);
        c.due("undo()", x.undo(), -1);
        c.due("restoreSnapshot(0)", x.restoreSnapshot(0), false);
        c.due("restoreSnapshot(1)", x.restoreSnapshot(1), false);
        for (int what = 0; what <= 9; what++) {
            c.due("account(" + what + ")", x.account(what), 0);
        }
        c.thrown(x, "device(0, 0)", INDEX, () -> x.device(0, 0));
        c.thrown(x, "stream(0, 0)", INDEX, () -> x.stream(0, 0));
        c.thrown(x, "deviceAt(1)", INDEX, () -> x.deviceAt(1));
        c.thrown(x, "parse(1)", ARGUMENT, () -> x.parse(1));
        c.due("parse(0)", x.parse(0), Checks.fault(0, 1));
        c.due("frames(3)", x.frames(3), 0);
        c.due("size(5)", x.size(5), 3);
    }

    private void append() {
        c.at("promise 2");
        ForesightHub x = new ForesightHub();
        for (int length = 20; length <= 600; length += 20) {
            c.due("append", x.append(0x20202020, 0x20202020, 0x20202020, 0x20202020, 0x20202020), length);
        }
        c.due("append to a full buffer", x.append(0, 0, 0, 0, 0), -1);
        c.thrown(x, "parse(601)", ARGUMENT, () -> x.parse(601));
        c.due("parse(600) of white space alone", x.parse(600), Checks.fault(600, 1));
        c.due("append behind a parse", x.append(0, 0, 0, 0, 0), 20);
        // 'h' 'u' 'b' ' ', '7' ' ' '3' ';', and blanks: the bytes come from the most significant one on
        ForesightHub y = new ForesightHub();
        y.append(0x68756220, 0x3720333b, 0x0a0a2020, 0x20200a0a, 0x2020200a);
        c.due("parse(20)", y.parse(20), 0);
        c.due("size(3)", y.size(3), 7);
        c.due("size(4)", y.size(4), 3);
        // the five numbers come one after the other: "hub " "12 5" ";ala" "rm 9" " 99;"
        y.append(0x68756220, 0x31322035, 0x3b616c61, 0x726d2039, 0x2039393b);
        c.due("parse(20)", y.parse(20), 0);
        c.due("size(7)", y.size(7), 9);
        c.due("size(8)", y.size(8), 99);
        // a byte above 127 is an illegal token
        y.append(0x68756220, 0x31203180, 0, 0, 0);
        c.due("parse(8)", y.parse(8), Checks.fault(7, 1));
    }

    private void parse() {
        c.at("promise 3");
        ForesightHub x = new ForesightHub();
        int length = Checks.append(x, TEXT);
        c.thrown(x, "parse(-1)", ARGUMENT, () -> x.parse(-1));
        c.thrown(x, "parse above the buffer", ARGUMENT, () -> x.parse(length + 1));
        c.thrown(x, "parse(MIN_VALUE)", ARGUMENT, () -> x.parse(Integer.MIN_VALUE));
        c.thrown(x, "parse(MAX_VALUE)", ARGUMENT, () -> x.parse(Integer.MAX_VALUE));
        c.due("parse behind such a call", x.parse(TEXT.length()), 4);
        c.thrown(x, "parse(1) with the buffer empty behind a success", ARGUMENT, () -> x.parse(1));
        List<String> before = Checks.allOf(x);
        c.due("parse of a wrong text", Checks.parse(x, "hub 1 1;what"), Checks.fault(8, 1));
        c.unchanged("a syntax error", x, before);
        c.thrown(x, "parse(1) with the buffer empty behind a syntax error", ARGUMENT, () -> x.parse(1));
        c.due("parse(0) of an empty buffer", x.parse(0), Checks.fault(0, 1));
        // a text up to the last byte of the buffer, and one of which only a part is parsed
        StringBuilder full = new StringBuilder("hub 1 1;");
        while (full.length() < 596) {
            full.append('\n');
        }
        c.due("parse(600)", Checks.parse(x, full + "hub;"), Checks.fault(596, 1));
        Checks.append(x, "hub 33 2;rubbish");
        c.due("parse(9)", x.parse(9), 0);
        c.due("size(3)", x.size(3), 33);
    }

    private void parseBeginsAnew() {
        c.at("promise 3, anew");
        ForesightHub x = Checks.hub(TEXT);
        x.frames(3);
        x.fail(0, 0);
        x.warn(1);
        x.unplug(1);
        x.setScore(50);
        x.saveSnapshot(0);
        x.saveSnapshot(1);
        List<String> before = Checks.allOf(x);
        c.due("a syntax error", Checks.parse(x, "hub 0 1;"), Checks.fault(4, 4));
        c.unchanged("a syntax error", x, before);
        c.due("size(9) behind a syntax error", x.size(9), 5);
        c.due("restoreSnapshot(1) behind a syntax error", x.restoreSnapshot(1), true);
        c.due("a change", x.setScore(7), 50);
        c.due("parse", Checks.parse(x, TEXT), 4);
        c.unchanged("parse of the same text", x, Checks.allOf(Checks.hub(TEXT)));
        c.due("undo() behind parse", x.undo(), -1);
        c.due("restoreSnapshot(0) behind parse", x.restoreSnapshot(0), false);
        c.due("restoreSnapshot(1) behind parse", x.restoreSnapshot(1), false);
        x.fail(0, 0);
        c.due("cause(0, 0), counted anew", x.cause(0, 0), 0);
        c.due("cause(0, 2), counted anew", x.cause(0, 2), 1);
        c.due("cause(1, 0), counted anew", x.cause(1, 0), -1);
        c.due("parse", Checks.parse(x, TEXT), 4);
        c.unchanged("parse of the same text again", x, Checks.allOf(Checks.hub(TEXT)));
        c.due("parse without an alarm", Checks.parse(x, "hub 5 2;device a 1;"), 0);
        c.due("size(7)", x.size(7), 10);
        c.due("size(8)", x.size(8), 5);
        c.due("device(0, 0)", x.device(0, 0), 1);
        c.due("device(0, 1)", x.device(0, 1), -1);
    }

    private void fault(String text, int offset, int kind) {
        c.due("parse \"" + text + "\"", Checks.parse(new ForesightHub(), text), Checks.fault(offset, kind));
    }

    private void good(String text, int streams) {
        c.due("parse \"" + text + "\"", Checks.parse(new ForesightHub(), text), streams);
    }

    private void syntaxFaults() {
        c.at("promise 3, syntax");
        fault("", 0, 1);
        fault("  \n", 3, 1);
        fault("pub 1 1;", 0, 1);
        fault("1", 0, 1);
        fault("hub", 3, 1);
        fault("hub x 1;", 4, 1);
        fault("hub 1;", 5, 1);
        fault("hub 1 1", 7, 1);
        fault("hub 1 1  ", 9, 1);
        fault("hub 1 1 1;", 8, 1);
        fault("hub 1 1;;", 8, 1);
        fault("hub 1 1;hub", 8, 1);
        fault("hub 1 1;crc", 8, 1);
        fault("hub 1 1;5", 8, 1);
        fault("hub 1 1;device", 14, 1);
        fault("hub 1 1;device 5 0;", 15, 1);
        fault("hub 1 1;device a b;", 17, 1);
        fault("hub 1 1;device a 0", 18, 1);
        fault("hub 1 1;device a 0 a;", 19, 1);
        fault("hub 1 1;device a 0 heir;", 23, 1);
        fault("hub 1 1;device a 0 heir 5;", 24, 1);
        fault("hub 1 2;device a 0;device b 1 heir a heir a;", 37, 1);
        fault("hub 1 1;device a 0;stream s 0 1 1;", 28, 1);
        fault("hub 1 1;device a 0;stream s a x 1;", 30, 1);
        fault("hub 1 1;device a 0;stream s a 1;", 31, 1);
        fault("hub 1 1;device a 0;stream s a 1 1 1;", 34, 1);
        fault("hub 1 1;pattern p 1 1;", 21, 1);
        fault("hub 1 1;pattern p 1 1 err;", 22, 1);
        fault("hub 1 1;pattern p 1 1 crc 1;", 26, 1);
        fault("hub 1 1;pattern p 1 crc;", 20, 1);
        fault("hub 1 1;pattern p 1 1 crc crc crc crc crc a;", 42, 1);
        fault("hub 1 1;alarm;", 13, 1);
        fault("hub 1 1;alarm 1;", 15, 1);
        fault("hub 1 1;alarm 1 1", 17, 1);
        fault("hub 1 1;alarm 1 1 1;", 18, 1);
        // the earlier fault is told, even if a later one has a lower kind
        fault("hub 0 1 #", 4, 4);
        fault("hub 1 1;device a 0;device a 9 #", 26, 3);
    }

    private void unknownAndRepeated() {
        c.at("promise 3, unknown and repeated");
        fault("hub 1 1;device a 0 heir a;", 24, 2);
        fault("hub 1 2;device a 0 heir b;device b 1;", 24, 2);
        fault("hub 1 1;stream s a 1 1;", 17, 2);
        fault("hub 1 1;pattern a 1 1 crc;stream s a 1 1;", 35, 2);
        fault("hub 1 1;device a 0;stream s a 1 1;stream t s 1 1;", 43, 2);
        fault("hub 1 2;device a 0;device a 1;", 26, 3);
        fault("hub 1 2;device a 1;device b 1;", 28, 3);
        fault("hub 1 2;device a 1;device b 01 heir x;", 28, 3);
        fault("hub 1 1;pattern p 1 1 crc;pattern p 1 1 crc;", 34, 3);
        fault("hub 9 1;device a 0;stream s a 1 1;stream s a 1 1;", 41, 3);
        fault("hub 1 1;alarm 1 1;alarm 1 1;", 18, 3);
        fault("hub 1 1;alarm 1 1;alarm", 18, 3);
        // names may be any words, and the same for items of other kinds
        good("hub 9 3;pattern a 1 1 crc;device a 0;stream a a 1 1;device hub 1;device heir 2 heir hub;", 1);
        good("hub 9 1;device device 0;stream stream device 1 1;pattern pattern 1 1 crc;pattern crc 1 1 crc;", 1);
        good("hub 9 2;device aaaaaaaa 0;device aaaaaaab 1;stream zzzzzzzz aaaaaaab 1 1;stream zzzzzzz aaaaaaaa 1 1;", 2);
    }

    private void names() {
        c.at("promise 3, names");
        good("hub 9 8;device a 0;device aa 1;device aaa 2;device b 3;device ab 4;device ba 5;device z 6;device az 7;", 0);
        good("hub 9 8;device y 0;device zz 1;device za 2;device azz 3;device baa 4;device zaaaaaaa 5;"
                + "device zzzzzzzz 6;device aaaaaaaa 7;", 0);
        ForesightHub x = Checks.hub("hub 9 3;device ab 0;device b 1;device ba 2 heir b;stream s ba 1 1;stream t ab 1 1;");
        c.due("device(2, 1)", x.device(2, 1), 1);
        c.due("stream(0, 6)", x.stream(0, 6), 2);
        c.due("stream(1, 6)", x.stream(1, 6), 0);
    }

    private void cutRuns() {
        c.at("promise 3, a text that ends within a run of the buffer");
        ForesightHub x = new ForesightHub();
        Checks.append(x, "hub 55 33;");
        c.due("parse(5)", x.parse(5), Checks.fault(5, 1));
        Checks.append(x, "hubhub 55 33;");
        c.due("parse(3)", x.parse(3), Checks.fault(3, 1));
        Checks.append(x, "hub 5 3;alarm 012345");
        c.due("parse(18)", x.parse(18), Checks.fault(18, 1));
        Checks.append(x, "hub 5 3;device abcdefghi 0;");
        c.due("parse(23)", x.parse(23), Checks.fault(23, 1));
        Checks.append(x, "hub 5 3;;;");
        c.due("parse(8)", x.parse(8), 0);
        StringBuilder full = new StringBuilder("hub 1 1;alarm 1 ");
        while (full.length() < 599) {
            full.append(' ');
        }
        c.due("parse(600), with a number at the end", Checks.parse(x, full + "1"), Checks.fault(600, 1));
        c.due("parse(600), with a word at the end", Checks.parse(x, full + "a"), Checks.fault(599, 1));
    }

    /** As much of everything as there may be, so that every row is used up to its end. */
    private void fullHub() {
        c.at("limits");
        StringBuilder text = new StringBuilder("hub 999 8;");
        for (int i = 0; i < 6; i++) {
            text.append("pattern ").append((char) ('a' + i)).append(" 9 9 crc crc crc crc crc;");
        }
        for (int i = 0; i < 8; i++) {
            text.append("device ").append((char) ('a' + i)).append(' ').append(7 - i);
            text.append(i > 0 ? " heir a;" : ";");
        }
        for (int i = 0; i < 12; i++) {
            text.append("stream ").append((char) ('a' + i)).append(" h 9 99;");
        }
        ForesightHub x = new ForesightHub();
        c.due("the text's length", text.length() <= 600, true);
        c.due("parse", Checks.parse(x, text.toString()), 12);
        c.due("device(7, 6)", x.device(7, 6), 4095);
        c.due("device(7, 7)", x.device(7, 7), 108);
        c.due("size(6)", x.size(6), 108);
        x.frames(1);
        c.due("atStake(7)", x.atStake(7), 108);
        c.due("framesToClear(7)", x.framesToClear(7), 10);
        for (int i = 0; i < 4; i++) {
            c.due("fail(7, 0)", x.fail(7, 0), 0);
        }
        c.due("fail(7, 0)", x.fail(7, 0), 54);
        c.due("device(7, 4)", x.device(7, 4), 63);
        c.due("weakest()", x.weakest(), 7);
        c.due("whyNotRunning(11)", x.whyNotRunning(11), 4);
        x.frames(4);
        c.due("callOff(7)", x.callOff(7), 12);
        c.due("unplug(7)", x.unplug(7), 12 * 45);
        c.due("event(0, 1)", x.event(0, 1), 11);
        c.due("device(0, 6)", x.device(0, 6), 4095);
        c.due("plug(7, 0)", x.plug(7, 0), 12);
        c.due("deviceAt(0)", x.deviceAt(0), 7);
        c.due("account(7)", x.account(7), 12);
        c.due("what can be asked for", Checks.allOf(x).size() > 500, true);
    }

    private void ranges() {
        c.at("promise 3, ranges");
        good("hub 1 1;", 0);
        good("hub 999 8;", 0);
        fault("hub 0 1;", 4, 4);
        fault("hub 1000 1;", 4, 4);
        fault("hub 5 0;", 6, 4);
        fault("hub 5 9;", 6, 4);
        good("hub 1 1;pattern p 1 1 crc;", 0);
        good("hub 1 1;pattern p 99 200 power;", 0);
        fault("hub 1 1;pattern p 0 1 crc;", 18, 4);
        fault("hub 1 1;pattern p 100 1 crc;", 18, 4);
        fault("hub 1 1;pattern p 1 0 crc;", 20, 4);
        fault("hub 1 1;pattern p 1 201 crc;", 20, 4);
        good("hub 1 8;device a 0;device b 7;", 0);
        fault("hub 1 3;device a 3;", 17, 4);
        fault("hub 1 1;device a 1;", 17, 4);
        good("hub 7 1;device a 0;stream s a 7 9999;stream t a 1 1;", 2);
        fault("hub 7 1;device a 0;stream s a 8 1;", 30, 4);
        fault("hub 7 1;device a 0;stream s a 0 1;", 30, 4);
        fault("hub 7 1;device a 0;stream s a 1 0;", 32, 4);
        good("hub 1 1;alarm 1 1;", 0);
        good("hub 1 1;alarm 999 99;", 0);
        fault("hub 1 1;alarm 0 1;", 14, 4);
        fault("hub 1 1;alarm 1000 1;", 14, 4);
        fault("hub 1 1;alarm 1 0;", 16, 4);
        fault("hub 1 1;alarm 1 100;", 16, 4);
    }

    private void tooMany() {
        c.at("promise 3, too many");
        StringBuilder patterns = new StringBuilder("hub 1 8;");
        StringBuilder devices = new StringBuilder("hub 1 8;");
        StringBuilder streams = new StringBuilder("hub 1 8;device a 0;");
        for (int i = 0; i < 12; i++) {
            char name = (char) ('a' + i);
            if (i < 6) {
                patterns.append("pattern ").append(name).append(" 1 1 crc;");
            }
            if (i < 8) {
                devices.append("device ").append(name).append(' ').append(i).append(';');
            }
            streams.append("stream ").append(name).append(" a 1 1;");
        }
        good(patterns.toString(), 0);
        fault(patterns + " pattern z 1 1 crc;", patterns.length() + 1, 5);
        fault(patterns + "pattern", patterns.length(), 5);
        good(patterns + "alarm 1 1;", 0);
        good(devices.toString(), 0);
        fault(devices + "device z 0;", devices.length(), 5);
        good(streams.toString(), 12);
        fault(streams + "stream z a 1 1;", streams.length(), 5);
        good("hub 1 1;pattern p 1 1 crc stall jitter power crc;", 0);
        fault("hub 1 1;pattern p 1 1 crc stall jitter power crc stall;", 49, 5);
        fault("hub 1 1;pattern p 1 1 crc stall jitter power crc stall #", 49, 5);
    }

    private void tokens() {
        c.at("promise 3, tokens");
        good("\n hub\n5  3 ;device\na\n0\n;\n", 0);
        good("hub5 3;device a0;stream s a5 1;", 1);
        good("hub 0005 0003;alarm 0999 0099;", 0);
        fault("hub 00005 1;", 4, 1);
        fault("hub 12345 1;", 4, 1);
        fault("hub 1\t1;", 5, 1);
        fault("hub 1 1;\r", 8, 1);
        fault("hub 1 1;device A 0;", 15, 1);
        fault("hub 1 1;device a_b 0;", 16, 1);
        fault("hub 1 1;device abcdefghi 0;", 15, 1);
        good("hub 1 1;device abcdefgh 0;", 0);
        fault("hub 1 1;devices a 0;", 8, 1);
        fault("hubs 1 1;", 0, 1);
        fault("hub 1 1;device a 0;stream s abcdefghi 1 1;", 28, 1);
        fault("hub 1 -1;", 6, 1);
        fault("hub 1 1:", 7, 1);
        fault("hub 1 1;`", 8, 1);
        fault("hub 1 1;{", 8, 1);
        fault("hub 1 /1;", 6, 1);
    }

    private void size() {
        c.at("promise 4");
        ForesightHub x = Checks.hub(TEXT);
        int[] want = {2, 3, 4, 20, 4, 0, 19, 6, 4, 0};
        for (int what = 0; what < want.length; what++) {
            c.due("size(" + what + ")", x.size(what), want[what]);
        }
        x.frames(2);
        x.setScore(77);
        x.unplug(0);
        c.due("size(5)", x.size(5), 2);
        c.due("size(6)", x.size(6), 11);
        c.due("size(7)", x.size(7), 77);
        c.due("size(9)", x.size(9), 3);
        c.thrown(x, "size(-1)", ARGUMENT, () -> x.size(-1));
        c.thrown(x, "size(10)", ARGUMENT, () -> x.size(10));
    }

    private void deviceAt() {
        c.at("promise 5");
        ForesightHub x = Checks.hub(TEXT);
        int[] want = {0, 1, -1, 2};
        for (int port = 0; port < want.length; port++) {
            c.due("deviceAt(" + port + ")", x.deviceAt(port), want[port]);
        }
        x.unplug(1);
        c.due("deviceAt(1)", x.deviceAt(1), -1);
        x.plug(1, 2);
        c.due("deviceAt(2)", x.deviceAt(2), 1);
        c.due("deviceAt(1)", x.deviceAt(1), -1);
        c.thrown(x, "deviceAt(-1)", INDEX, () -> x.deviceAt(-1));
        c.thrown(x, "deviceAt(4)", INDEX, () -> x.deviceAt(4));
        c.thrown(x, "deviceAt(MAX_VALUE)", INDEX, () -> x.deviceAt(Integer.MAX_VALUE));
    }

    private void deviceIs(ForesightHub x, int device, int... want) {
        for (int what = 0; what < want.length; what++) {
            c.due("device(" + device + ", " + what + ")", x.device(device, what), want[what]);
        }
    }

    private void device() {
        c.at("promise 6");
        ForesightHub x = Checks.hub(TEXT);
        deviceIs(x, 0, 0, -1, 0, 0, 0, 0, 4, 10);
        deviceIs(x, 1, 1, 0, 0, 0, 0, 0, 3, 9);
        deviceIs(x, 2, 3, 1, 0, 0, 0, 0, 0, 0);
        x.fail(1, 1);
        x.fail(1, 0);
        deviceIs(x, 1, 1, 0, 0, 5, 2, 2, 3, 9);
        x.frames(1);
        x.fail(1, 0);
        // s has 5 of 8 units done and ends at b; t has none and went to a, the heir
        deviceIs(x, 1, 1, 0, 1, 11, 3, 3, 1, 5);
        deviceIs(x, 0, 0, -1, 0, 0, 0, 0, 6, 14);
        x.unplug(1);
        // s waited and went to a, too
        deviceIs(x, 1, -1, 0, 0, 0, 0, 0, 0, 0);
        deviceIs(x, 0, 0, -1, 0, 0, 0, 0, 7, 19);
        c.thrown(x, "device(3, 9)", INDEX, () -> x.device(3, 9));
        c.thrown(x, "device(-1, 0)", INDEX, () -> x.device(-1, 0));
        c.thrown(x, "device(0, 8)", ARGUMENT, () -> x.device(0, 8));
        c.thrown(x, "device(0, -1)", ARGUMENT, () -> x.device(0, -1));
    }

    private void streamIs(ForesightHub x, int stream, int... want) {
        for (int what = 0; what < want.length; what++) {
            c.due("stream(" + stream + ", " + what + ")", x.stream(stream, what), want[what]);
        }
    }

    private void stream() {
        c.at("promise 7");
        ForesightHub x = Checks.hub(TEXT);
        streamIs(x, 0, 1, 1, 1, 5, 8, 0, 1);
        streamIs(x, 1, 1, 1, 1, 4, 4, 0, 1);
        streamIs(x, 2, 1, 0, 0, 10, 7, 0, 0);
        streamIs(x, 3, 0, -1, 2, 2, 50, 0, 2);
        x.frames(1);
        x.warn(1);
        streamIs(x, 0, 2, 1, 0, 5, 8, 5, 1);
        streamIs(x, 1, 1, 0, 0, 4, 4, 0, 1);
        streamIs(x, 2, 1, 0, 0, 10, 7, 3, 0);
        x.warn(0);
        streamIs(x, 1, 0, -1, -1, 4, 4, 0, 1);
        streamIs(x, 0, 2, 1, -1, 5, 8, 5, 1);
        c.thrown(x, "stream(4, 9)", INDEX, () -> x.stream(4, 9));
        c.thrown(x, "stream(-1, 0)", INDEX, () -> x.stream(-1, 0));
        c.thrown(x, "stream(0, 7)", ARGUMENT, () -> x.stream(0, 7));
        c.thrown(x, "stream(0, -1)", ARGUMENT, () -> x.stream(0, -1));
    }

    private void packets() {
        c.at("promise 8");
        ForesightHub x = Checks.hub(TEXT);
        c.due("packets(0)", x.packets(0), 0L);
        x.frames(2);
        c.due("packets(0)", x.packets(0), 1L);
        c.due("packets(1)", x.packets(1), 2L);
        c.due("packets(2)", x.packets(2), 2L);
        c.due("packets(3)", x.packets(3), 0L);
        x.frames(200);
        c.due("packets(0)", x.packets(0), 1010L / 8);
        c.due("packets(2)", x.packets(2), 2020L / 7);
        ForesightHub y = Checks.hub("hub 999 1;device a 0;stream s a 999 1;");
        for (int i = 0; i < 200; i++) {
            y.frames(200);
        }
        c.due("packets(0) of many", y.packets(0), 999L * 200 * 200);
        c.thrown(x, "packets(4)", INDEX, () -> x.packets(4));
        c.thrown(x, "packets(-1)", INDEX, () -> x.packets(-1));
    }
}
