import java.util.Arrays;
import java.util.function.Supplier;

/** The paragraph TEXT, and promises 1 to 3. */
final class TextEdges extends Edges {
    private static final String PORTS = "hub 9 8;";

    TextEdges(Checks checks, Sentences sentences) {
        super(checks, sentences);
    }

    @Override
    void run() {
        buffer();
        whiteSpace();
        words();
        numbers();
        semicolons();
        illegalTokens();
        header();
        statements();
        quotedWords();
        eachTokenIsNeeded();
        namesAndDevices();
        numbering();
        anyName();
        limits();
        headerRanges();
        patternRanges();
        portRange();
        streamRanges();
        alarmRanges();
        oneAlarm();
        lowestOffset();
        lowestKind();
        syntaxKind();
        tooEarlyEnd();
        unknownKind();
        repeatedName();
        repeatedPort();
        repeatedAlarm();
        rangeKind();
        tooManyStatements();
        sixthError();
        promise1();
        promise2();
        promise3();
        promise3Length();
        promise3Replaces();
        promise3Answer();
        promise3Buffer();
        promise3Stays();
        promise3NothingLeft();
    }

    private static String of600(String start, String end) {
        return start + " ".repeat(600 - start.length() - end.length()) + end;
    }

    private void buffer() {
        at("TEXT", "The input buffer holds at most 600 bytes.");
        ForesightHub x = new ForesightHub();
        due("a text of 580 bytes", Checks.append(x, "#".repeat(580)), 580);
        due("twenty more", Checks.append(x, "#".repeat(20)), 600);
        due("and twenty more", Checks.append(x, "#".repeat(20)), -1);
        ForesightHub y = good(of600("hub 1 1;", "alarm 77 66;"), 0);
        sizeIs(y, 7, 77);
        sizeIs(y, 8, 66);
        fault(of600("hub 1 1;", "alarm 77 66"), 600, 1);
        fault(of600("hub 1 1;", ";"), 599, 1);
        ForesightHub z = new ForesightHub();
        Checks.append(z, of600("hub 1 1;", "alarm 77 66;"));
        due("parse(599)", z.parse(599), Checks.fault(599, 1));
    }

    private static boolean isWhite(int sign) {
        return sign == 32 || sign == 10;
    }

    private void whiteSpace() {
        at("TEXT", "Bytes 32 (space) and 10 (line feed) are white space; they may stand between tokens and are "
                + "otherwise ignored.");
        for (int sign = 0; sign < 256; sign++) {
            String text = "hub 9 2;" + (char) sign;
            if (isWhite(sign)) {
                good(text, 0);
                good((char) sign + "hub 9 2;", 0);
            } else {
                fault(text, 8, 1);
                fault((char) sign + "hub 9 2;", 0, 1);
            }
        }
        for (int sign : new int[] {9, 11, 31, 33}) {
            fault("hub" + (char) sign + "9 2;", 3, 1);
            fault("hub 9" + (char) sign + "2;", 5, 1);
            fault("hub 9 2" + (char) sign + ";", 7, 1);
        }
        ForesightHub x = good("\n\n  hub\n9  2\n \n;alarm  \n 8\n\n4 ; \n\n", 0);
        sizeIs(x, 3, 9);
        sizeIs(x, 4, 2);
        sizeIs(x, 7, 8);
        sizeIs(x, 8, 4);
        good("hub9 2;device a0;stream s a5 1;", 1);
        fault("hu b 9 2;", 0, 1);
        fault("hub 9 2;ala rm 8 4;", 8, 1);
        fault("hub 9 2;ala\nrm 8 4;", 8, 1);
        fault("hub 9 2;alarm 8 4 4;", 18, 1);
        fault(" \n ", 3, 1);
    }

    private void words() {
        at("TEXT", "A token is a word (a maximal run of lower-case letters a to z, 1 to 8 letters long)");
        good("hub 1 1;device a 0;", 0);
        good("hub 1 1;device z 0;", 0);
        good("hub 1 1;device abcdefg 0;", 0);
        good("hub 1 1;device stuvwxyz 0;", 0);
        fault("hub 1 1;device rstuvwxyz 0;", 15, 1);
        fault("hub 1 1;device " + "z".repeat(500) + " 0;", 15, 1);
        fault("hub 1 1;device ` 0;", 15, 1);
        fault("hub 1 1;device { 0;", 15, 1);
        fault("hub 1 1;device A 0;", 15, 1);
        fault("hub 1 1;device Z 0;", 15, 1);
        fault("hub 1 1;device \u00e1 0;", 15, 1);
        // the run is maximal: nothing is cut off from it to make two tokens
        fault("hubdevice a 0;", 0, 1);
        fault("hub 1 1;patternp 1 1 crc;", 8, 1);
        fault("hub 1 1;devicea 0;", 8, 1);
        fault("hub 1 2;device a 0;device b 1 heira;", 30, 1);
        fault("hub 1 1;pattern p 1 1 crccrc;", 22, 1);
        // a word is the whole run: longer and shorter ones are other words
        good("hub 1 3;device aaaaaaaa 0;device aaaaaaa 1;device aaaaaaab 2;", 0);
        fault("hub 1 2;device aaaaaaaa 0;device b 1 heir aaaaaaa;", 42, 2);
    }

    private void numbers() {
        at("TEXT", "a number (a maximal run of digits, 1 to 4 digits long)");
        good("hub 1 1;", 0);
        ForesightHub x = good("hub 0999 0008;device a 0;stream s a 01 9999;", 1);
        sizeIs(x, 3, 999);
        sizeIs(x, 4, 8);
        streamIs(x, 0, 3, 1);
        streamIs(x, 0, 4, 9999);
        deviceIs(good("hub 1 1;device a 0000;", 0), 0, 0, 0);
        fault("hub 00001 1;", 4, 1);
        fault("hub 1 00001;", 6, 1);
        fault("hub 1 1;device a 00000;", 17, 1);
        fault("hub 1 1;device a 0;stream s a 1 10000;", 32, 1);
        fault("hub 1 1;device a 0;stream s a 1 " + "0".repeat(500) + "1;", 32, 1);
        fault("hub / 1;", 4, 1);
        fault("hub : 1;", 4, 1);
        fault("hub -1 1;", 4, 1);
        fault("hub +1 1;", 4, 1);
        fault("hub 1.5 1;", 5, 1);
        // the run is maximal, and each digit counts
        fault("hub 11;", 6, 1);
        sizeIs(good("hub 890 7;", 0), 3, 890);
        sizeIs(good("hub 567 1;", 0), 3, 567);
        sizeIs(good("hub 234 1;", 0), 3, 234);
        sizeIs(good("hub 1 1;alarm 901 1;", 0), 7, 901);
    }

    private void semicolons() {
        at("TEXT", "or a semicolon.");
        good("hub 1 1;", 0);
        fault("hub 1 1:", 7, 1);
        fault("hub 1 1<", 7, 1);
        fault("hub 1 1,", 7, 1);
        fault("hub 1 1;;", 8, 1);
        fault(";hub 1 1;", 0, 1);
    }

    private void illegalTokens() {
        at("TEXT", "Any other byte, and any longer run, is an illegal token that starts at its first byte.");
        for (int sign = 0; sign < 256; sign++) {
            boolean token = sign >= 'a' && sign <= 'z' || sign >= '0' && sign <= '9' || sign == ';';
            if (!token && !isWhite(sign)) {
                fault("hub 1 1;device a" + (char) sign + " 0;", 16, 1);
            }
        }
        fault("hub 1 1;  abcdefghi", 10, 1);
        fault("hub 1 1;  12345", 10, 1);
        fault("hub 1 1;alarm 5 12345", 16, 1);
        fault("hub 1 1;device ab#c 0;", 17, 1);
        fault("hub 1 1;device abcdefghi#c 0;", 15, 1);
        fault("hub 1 1;##", 8, 1);
    }

    private void header() {
        at("TEXT", "hub = \"hub\" whole ports \";\" { statement \";\" }");
        good("hub 1 1;", 0);
        good("hub 1 1;alarm 1 1;", 0);
        good("hub 1 1;alarm 1 1;device a 0;pattern p 1 1 crc;stream s a 1 1;pattern q 1 1 crc;", 1);
        fault("hub 1 1 alarm 1 1;", 8, 1);
        fault("hub 1 1;alarm 1 1 device a 0;", 18, 1);
        fault("hub 1 1;alarm 1 1", 17, 1);
        fault("hub 1 1;hub 1 1;", 8, 1);
        fault("alarm 1 1;hub 1 1;", 0, 1);
        fault("hub 1;", 5, 1);
        fault("hub 1 1 1;", 8, 1);
        fault("hub;", 3, 1);
        fault("1 1;", 0, 1);
    }

    private void statements() {
        at("TEXT", "statement = \"pattern\" name weight within error { error } |",
                "\"device\" name port [ \"heir\" device ]", "\"stream\" name device rate packet", "\"alarm\" score grace",
                "error = \"crc\" | \"stall\" | \"jitter\" | \"power\"");
        fault("hub 9 2;pattern p 1 1;", 21, 1);
        good("hub 9 2;pattern p 1 1 crc;", 0);
        good("hub 9 2;pattern p 1 1 power jitter stall crc;", 0);
        fault("hub 9 2;pattern p 1 1 error;", 22, 1);
        fault("hub 9 2;pattern p 1 1 crc error;", 26, 1);
        fault("hub 9 2;pattern p 1 1 crc 1;", 26, 1);
        fault("hub 9 2;pattern p 1 1 1 crc;", 22, 1);
        fault("hub 9 2;pattern p 1 1 cr;", 22, 1);
        fault("hub 9 2;pattern p 1 1 powers;", 22, 1);
        good("hub 9 2;device a 0;device b 1 heir a;", 0);
        fault("hub 9 2;device a 0;device b 1 heir;", 34, 1);
        fault("hub 9 2;device a 0;device b 1 a;", 30, 1);
        fault("hub 9 2;device a 0;device b 1 heir a a;", 37, 1);
        fault("hub 9 2;device a 0;device b heir a 1;", 28, 1);
        fault("hub 9 2;device a 0;device b 1 heirs a;", 30, 1);
        good("hub 9 2;device a 0;stream s a 1 1;", 1);
        fault("hub 9 2;device a 0;stream s a 1 1 1;", 34, 1);
        fault("hub 9 2;device a 0;stream s 1 1;", 28, 1);
        good("hub 9 2;alarm 1 1;", 0);
        fault("hub 9 2;alarm a 1 1;", 14, 1);
        fault("hub 9 2;alarms 1 1;", 8, 1);
        fault("hub 9 2;alar 1 1;", 8, 1);
        fault("hub 9 2;heir a;", 8, 1);
        fault("hub 9 2;7;", 8, 1);
    }

    /** No other word is taken for a quoted one: none with a letter more, less or changed. */
    private void quotedWords() {
        at("TEXT", "all other items that are not quoted are numbers.");
        String text = "hub 9 4;pattern x 1 1 crc stall jitter power;device y 0;device z 1 heir y;stream v z 1 1;"
                + "alarm 1 1;";
        good(text, 1);
        for (String word : new String[] {"hub", "pattern", "crc", "stall", "jitter", "power", "device", "heir",
            "stream", "alarm"}) {
            int start = text.indexOf(word);
            String rest = text.substring(start + word.length());
            for (int i = 0; i < word.length(); i++) {
                String before = text.substring(0, start) + word.substring(0, i);
                fault(before + "q" + word.substring(i + 1) + rest, start, 1);
                fault(before + (char) (word.charAt(i) + 1) + word.substring(i + 1) + rest, start, 1);
                fault(before + word.substring(i + 1) + rest, start, 1);
                fault(before + word.charAt(i) + word.substring(i) + rest, start, 1);
            }
        }
    }

    /** A text of one of everything, cut behind each token, and with each token in turn in another sort. */
    private void eachTokenIsNeeded() {
        at("TEXT", "name is a new name, device the name of an earlier device; all other items that are not quoted are "
                + "numbers.");
        String[] tokens = ("hub 9 4 ; pattern p 1 1 crc ; device a 0 ; device b 1 heir a ; stream s b 1 1 ; alarm 1 1 ;")
                .split(" ");
        StringBuilder before = new StringBuilder();
        for (int i = 0; i < tokens.length; i++) {
            String rest = String.join(" ", Arrays.copyOfRange(tokens, i + 1, tokens.length));
            for (String other : new String[] {"7", ";", "qq", "#", "hub", "12345", "abcdefghi"}) {
                if (!fits(tokens[i], other)) {
                    fault(before + other + " " + rest, before.length(), 1);
                }
            }
            before.append(tokens[i]).append(' ');
            boolean whole = tokens[i].equals(";");
            due("parse of what ends behind " + before, Checks.parse(new ForesightHub(), before.toString()),
                    whole ? (i > 20 ? 1 : 0) : Checks.fault(before.length(), 1));
        }
        fault("hub 9 2;device a 0;device b 1 heir b;", 35, 2);
        fault("hub 9 2;device a 0;device a 1 heir a;", 26, 3);
    }

    /** True if the other token may stand there, or is no fault in syntax. */
    private static boolean fits(String token, String other) {
        boolean number = Character.isDigit(token.charAt(0));
        boolean name = token.length() == 1 && Character.isLetter(token.charAt(0));
        return other.equals(token) || number && other.equals("7") || token.equals("heir") && other.equals(";")
                || name && (other.equals("qq") || other.equals("hub"));
    }

    private void namesAndDevices() {
        at("TEXT", "name is a new name, device the name of an earlier device");
        ForesightHub x = good("hub 9 4;device d 3;device c 2 heir d;device b 1 heir d;device a 0 heir c;"
                + "stream z a 1 1;stream y d 1 1;stream x c 1 1;", 3);
        int[] heirs = {-1, 0, 0, 1};
        for (int device = 0; device < 4; device++) {
            deviceIs(x, device, 1, heirs[device]);
            deviceIs(x, device, 0, 3 - device);
        }
        streamIs(x, 0, 6, 3);
        streamIs(x, 1, 6, 0);
        streamIs(x, 2, 6, 1);
    }

    private void numbering() {
        at("TEXT", "Patterns, devices and streams are numbered from 0 in the order of the text, each kind by itself, "
                + "and may have the same names as others of another kind.");
        ForesightHub x = good("hub 9 3;pattern b 1 9 crc;device b 2;pattern a 2 9 stall;stream b b 1 7;device a 1;"
                + "stream a a 2 7;pattern c 4 9 crc;device c 0;stream c b 3 7;alarm 99 9;", 3);
        sizeIs(x, 0, 3);
        sizeIs(x, 1, 3);
        sizeIs(x, 2, 3);
        for (int i = 0; i < 3; i++) {
            deviceIs(x, i, 0, 2 - i);
            streamIs(x, i, 3, i + 1);
        }
        streamIs(x, 2, 6, 0);
        due("fail(0, 0), patterns 0 and 2", x.fail(0, 0), 5);
        deviceIs(x, 0, 4, 5);
        due("fail(1, 1), pattern 1", x.fail(1, 1), 2);
        deviceIs(x, 1, 4, 2);
    }

    private void anyName() {
        at("TEXT", "A name can be any word.");
        String[] words = {"hub", "pattern", "device", "stream", "alarm", "heir", "crc", "stall", "jitter", "power",
            "a", "z", "abcdefgh", "zzzzzzzz", "error", "name"};
        for (String word : words) {
            ForesightHub x = good("hub 9 2;pattern " + word + " 1 1 crc;device " + word + " 0;device q 1 heir " + word
                    + ";stream " + word + " " + word + " 1 1;", 1);
            deviceIs(x, 1, 1, 0);
            streamIs(x, 0, 6, 0);
        }
    }

    private static String patterns(int count) {
        StringBuilder text = new StringBuilder();
        for (int i = 0; i < count; i++) {
            text.append("pattern ").append((char) ('a' + i)).append(" 1 1 crc;");
        }
        return text.toString();
    }

    private static String devices(int count) {
        StringBuilder text = new StringBuilder();
        for (int i = 0; i < count; i++) {
            text.append("device ").append((char) ('a' + i)).append(' ').append(i).append(';');
        }
        return text.toString();
    }

    private static String streams(int count) {
        StringBuilder text = new StringBuilder();
        for (int i = 0; i < count; i++) {
            text.append("stream ").append((char) ('a' + i)).append(" a 1 1;");
        }
        return text.toString();
    }

    private void limits() {
        at("TEXT", "Limits: at most 6 patterns of at most 5 errors, 8 devices, 12 streams.");
        for (int count = 0; count <= 6; count++) {
            sizeIs(good(PORTS + patterns(count), 0), 0, count);
        }
        fault(PORTS + patterns(7), (PORTS + patterns(6)).length(), 5);
        for (int count = 1; count <= 5; count++) {
            ForesightHub x = good("hub 9 1;pattern p 3 9" + " power".repeat(count) + ";device a 0;", 0);
            for (int error = 1; error <= 6; error++) {
                due("error " + error + " of " + count, x.fail(0, 3), error >= count ? 3 : 0);
            }
        }
        fault("hub 9 1;pattern p 3 9" + " power".repeat(6) + ";device a 0;", 52, 5);
        for (int count = 0; count <= 8; count++) {
            sizeIs(good(PORTS + devices(count), 0), 1, count);
        }
        fault(PORTS + devices(9), (PORTS + devices(8)).length(), 5);
        for (int count = 0; count <= 12; count++) {
            sizeIs(good(PORTS + devices(1) + streams(count), count), 2, count);
        }
        fault(PORTS + devices(1) + streams(13), (PORTS + devices(1) + streams(12)).length(), 5);
        // the limit of one kind is none of another
        String full = PORTS + patterns(6) + devices(8) + streams(12);
        ForesightHub x = good(full + "alarm 3 3;", 12);
        sizeIs(x, 0, 6);
        sizeIs(x, 1, 8);
    }

    private void headerRanges() {
        at("TEXT", "Ranges: whole (the units of a frame) 1 to 999");
        fault("hub 0 1;", 4, 4);
        sizeIs(good("hub 1 1;", 0), 3, 1);
        sizeIs(good("hub 2 1;", 0), 3, 2);
        sizeIs(good("hub 998 1;", 0), 3, 998);
        sizeIs(good("hub 999 1;", 0), 3, 999);
        fault("hub 1000 1;", 4, 4);
        fault("hub 9999 1;", 4, 4);
        at("TEXT", "ports (how many there are; they are numbered from 0) 1 to 8");
        fault("hub 1 0;", 6, 4);
        for (int ports = 1; ports <= 8; ports++) {
            ForesightHub x = good("hub 1 " + ports + ";device a " + (ports - 1) + ";", 0);
            sizeIs(x, 4, ports);
            due("deviceAt(" + (ports - 1) + ")", x.deviceAt(ports - 1), 0);
            int beyond = ports;
            c.thrown(x, "deviceAt(" + ports + ")", INDEX, () -> x.deviceAt(beyond));
            c.thrown(x, "deviceAt(-1)", INDEX, () -> x.deviceAt(-1));
        }
        fault("hub 1 9;", 6, 4);
        fault("hub 1 9999;", 6, 4);
    }

    private void patternRanges() {
        at("TEXT", "weight 1 to 99");
        fault("hub 1 1;pattern p 0 1 crc;", 18, 4);
        for (int weight : new int[] {1, 2, 98, 99}) {
            due("fail(0, 0)", good("hub 1 1;pattern p " + weight + " 1 crc;device a 0;", 0).fail(0, 0), weight);
        }
        fault("hub 1 1;pattern p 100 1 crc;", 18, 4);
        fault("hub 1 1;pattern p 9999 1 crc;", 18, 4);
        at("TEXT", "within 1 to 200");
        fault("hub 1 1;pattern p 1 0 crc;", 20, 4);
        for (int within : new int[] {1, 2, 199, 200}) {
            ForesightHub x = good("hub 1 1;pattern p 1 " + within + " crc;device a 0;", 0);
            x.fail(0, 0);
            if (within > 1) {
                x.frames(within - 1);
            }
            deviceIs(x, 0, 3, 1);
            x.frames(1);
            deviceIs(x, 0, 3, 0);
        }
        fault("hub 1 1;pattern p 1 201 crc;", 20, 4);
        fault("hub 1 1;pattern p 1 9999 crc;", 20, 4);
    }

    private void portRange() {
        at("TEXT", "port 0 to ports - 1");
        for (int ports = 1; ports <= 8; ports++) {
            String start = "hub 1 " + ports + ";device a ";
            deviceIs(good(start + "0;", 0), 0, 0, 0);
            deviceIs(good(start + (ports - 1) + ";", 0), 0, 0, ports - 1);
            fault(start + ports + ";", 17, 4);
            fault(start + (ports + 1) + ";", 17, 4);
        }
        fault("hub 1 1;device a -1;", 17, 1);
        fault("hub 1 8;device a 9999;", 17, 4);
    }

    private void streamRanges() {
        at("TEXT", "rate 1 to whole");
        for (int whole : new int[] {1, 2, 50, 999}) {
            String start = "hub " + whole + " 1;device a 0;stream s a ";
            fault(start + "0 1;", start.length(), 4);
            streamIs(good(start + "1 1;", 1), 0, 3, 1);
            streamIs(good(start + whole + " 1;", 1), 0, 3, whole);
            fault(start + (whole + 1) + " 1;", start.length(), 4);
        }
        fault("hub 1 1;device a 0;stream s a 9999 1;", 30, 4);
        at("TEXT", "packet 1 to 9999");
        String start = "hub 1 1;device a 0;stream s a 1 ";
        fault(start + "0;", start.length(), 4);
        for (int packet : new int[] {1, 2, 9998, 9999}) {
            streamIs(good(start + packet + ";", 1), 0, 4, packet);
        }
        fault(start + "10000;", start.length(), 1);
    }

    private void alarmRanges() {
        at("TEXT", "score 1 to 999 (10 without the statement)");
        sizeIs(good("hub 1 1;", 0), 7, 10);
        fault("hub 1 1;alarm 0 1;", 14, 4);
        for (int score : new int[] {1, 2, 998, 999}) {
            sizeIs(good("hub 1 1;alarm " + score + " 1;", 0), 7, score);
        }
        fault("hub 1 1;alarm 1000 1;", 14, 4);
        fault("hub 1 1;alarm 9999 1;", 14, 4);
        at("TEXT", "grace 1 to 99 (5).");
        sizeIs(good("hub 1 1;", 0), 8, 5);
        fault("hub 1 1;alarm 1 0;", 16, 4);
        for (int grace : new int[] {1, 2, 98, 99}) {
            sizeIs(good("hub 1 1;alarm 1 " + grace + ";", 0), 8, grace);
        }
        fault("hub 1 1;alarm 1 100;", 16, 4);
        fault("hub 1 1;alarm 1 9999;", 16, 4);
    }

    private void oneAlarm() {
        at("TEXT", "alarm can occur once.");
        good("hub 1 1;", 0);
        good("hub 1 1;alarm 3 3;", 0);
        fault("hub 1 1;alarm 3 3;alarm 3 3;", 18, 3);
        fault("hub 1 1;alarm 3 3;device a 0;alarm 3 3;", 29, 3);
        // it is counted anew in the next text
        ForesightHub x = good("hub 1 1;alarm 3 3;", 0);
        due("parse of the same text", Checks.parse(x, "hub 1 1;alarm 4 4;"), 0);
        due("parse of a wrong one", Checks.parse(x, "hub 1 1;alarm 5 5;alarm"), Checks.fault(18, 3));
        due("parse of a good one", Checks.parse(x, "hub 1 1;alarm 6 6;"), 0);
        sizeIs(x, 7, 6);
    }

    /** Faulty statements of the five kinds, each behind a text with a pattern, a device, a stream and an alarm. */
    private static final String START = "hub 9 2;pattern p 1 1 crc;device a 0;stream s a 1 1;alarm 1 1;";
    private static final String[] FAULTY = {"device 5 1;", "stream t b 1 1;", "device a 1;", "device c 2;",
        "pattern q 1 1 crc crc crc crc crc crc;"};
    private static final int[] FAULTS = {7, 9, 7, 9, 34};

    private void lowestOffset() {
        at("TEXT", "Syntax errors. The parser reports the error with the lowest byte offset");
        for (int first = 0; first < 5; first++) {
            fault(START + FAULTY[first], START.length() + FAULTS[first], first + 1);
            for (int second = 0; second < 5; second++) {
                fault(START + FAULTY[first] + FAULTY[second], START.length() + FAULTS[first], first + 1);
            }
            fault(START + FAULTY[first] + "#", START.length() + FAULTS[first], first + 1);
        }
        // two within one statement
        fault("hub 0 0;", 4, 4);
        fault("hub 1000 x", 4, 4);
        fault("hub 9 2;device a 0;device a 0 heir x;", 26, 3);
        fault("hub 9 2;device a 0;device b 0 heir x;", 28, 3);
        fault("hub 9 2;device a 0;device b 2 heir x;", 28, 4);
        fault("hub 9 2;device a 0;stream s x 0 0;", 28, 2);
        fault("hub 9 2;device a 0;stream s a 0 0;", 30, 4);
        fault("hub 9 2;pattern p 0 0 x;", 18, 4);
        fault("hub 9 2;pattern p 1 0 x;", 20, 4);
        fault("hub 9 2;alarm 0 0", 14, 4);
        fault("hub 9 2;alarm 1 1;alarm 0 0", 18, 3);
    }

    private void lowestKind() {
        at("TEXT", "of several kinds at one offset the lowest:");
        fault("hub 10000 1;", 4, 1);
        fault("hub 9 2;device a 0;stream s bbbbbbbbb 1 1;", 28, 1);
        fault("hub 9 2;device aaaaaaaa 0;device aaaaaaaaa 1;", 33, 1);
        fault("hub 9 2;device a 0;device b 00000;", 28, 1);
        fault(PORTS + patterns(6).substring(0, patterns(6).length() - 1) + " pattern g 1 1 crc;",
                (PORTS + patterns(6)).length(), 1);
        fault(PORTS + devices(8).substring(0, devices(8).length() - 1) + " device i 1;",
                (PORTS + devices(8)).length(), 1);
        fault("hub 9 2;alarm 1 1 alarm 1 1;", 18, 1);
        fault("hub 9 1;pattern p 3 9" + " power".repeat(5) + " alarm;", 52, 1);
        fault("hub 9 1;pattern p 3 9" + " power".repeat(5) + " powerpower;", 52, 1);
    }

    private void syntaxKind() {
        at("TEXT", "1 (syntax): an illegal token, a token that cannot continue a hub;");
        fault("#", 0, 1);
        fault("hub # 1;", 4, 1);
        fault("hub 9 2;#", 8, 1);
        fault("hub 9 2;device a 0;#", 19, 1);
        fault("hub 9 2;device a 0#", 18, 1);
        fault("hub 9 2;statemen", 8, 1);
        fault("hub 9 2;;", 8, 1);
        fault("hub hub 9 2;", 4, 1);
        fault("9 9 2;", 0, 1);
        fault(";", 0, 1);
        fault("Hub 9 2;", 0, 1);
    }

    private void tooEarlyEnd() {
        at("TEXT", "if the text ends too early, the offset is the length of the text.");
        fault("", 0, 1);
        fault(" ", 1, 1);
        fault("hub", 3, 1);
        fault("hub ", 4, 1);
        fault("hub 9 2", 7, 1);
        fault("hub 9 2\n\n", 9, 1);
        fault("hub 9 2;device a 0", 18, 1);
        fault("hub 9 2;device a 0 heir", 23, 1);
        fault("hub 9 2;pattern p 1 1 crc", 25, 1);
        fault("hub 9 2;pattern p 1 1 crc crc crc crc crc", 41, 1);
        good("hub 9 2;pattern p 1 1 crc;", 0);
        fault(" ".repeat(600), 600, 1);
        // it is the length that parse is told, not that of the buffer
        ForesightHub x = new ForesightHub();
        Checks.append(x, "hub 9 2;device a 0;");
        due("parse(18)", x.parse(18), Checks.fault(18, 1));
        Checks.append(x, "hub 9 2;device a 0;");
        due("parse(7)", x.parse(7), Checks.fault(7, 1));
        Checks.append(x, "hub 9 2;device a 0;");
        due("parse(8)", x.parse(8), 0);
        sizeIs(x, 1, 0);
    }

    private void unknownKind() {
        at("TEXT", "2 (unknown): a word in the place of a device that is not the name of an earlier one.");
        fault("hub 9 2;device a 0 heir a;", 24, 2);
        fault("hub 9 2;device a 0 heir b;device b 1;", 24, 2);
        good("hub 9 2;device b 1;device a 0 heir b;", 0);
        fault("hub 9 2;stream s a 1 1;device a 0;", 17, 2);
        fault("hub 9 2;device ab 0;stream s a 1 1;", 29, 2);
        fault("hub 9 2;device ab 0;stream s abc 1 1;", 29, 2);
        fault("hub 9 2;device ab 0;stream s ba 1 1;", 29, 2);
        good("hub 9 2;device ab 0;stream s ab 1 1;", 1);
        fault("hub 9 2;pattern q 1 1 crc;device a 0;stream r a 1 1;stream s q 1 1;", 61, 2);
        fault("hub 9 2;pattern q 1 1 crc;device a 0;stream r a 1 1;stream s r 1 1;", 61, 2);
        fault("hub 9 2;pattern q 1 1 crc;device a 0;stream r a 1 1;stream s heir 1 1;", 61, 2);
        // what is no word is a fault in syntax, and so is the end of the text
        fault("hub 9 2;device a 0;stream s 0 1 1;", 28, 1);
        fault("hub 9 2;device a 0;stream s ;", 28, 1);
        fault("hub 9 2;device a 0;stream s ", 28, 1);
        // the devices of an earlier text are not known any more
        ForesightHub x = good("hub 9 2;device a 0;", 0);
        due("parse", Checks.parse(x, "hub 9 2;stream s a 1 1;"), Checks.fault(17, 2));
        due("parse", Checks.parse(x, "hub 9 2;device b 0 heir a;"), Checks.fault(24, 2));
    }

    private void repeatedName() {
        at("TEXT", "3 (repeated): a name that an earlier one of the same kind has;");
        fault("hub 9 2;pattern p 1 1 crc;pattern p 1 1 crc;", 34, 3);
        fault("hub 9 2;pattern p 1 1 crc;pattern q 1 1 crc;pattern p 1 1 crc;", 52, 3);
        fault("hub 9 2;device a 0;device a 1;", 26, 3);
        fault("hub 9 3;device a 0;device b 1;device b 2;", 37, 3);
        fault("hub 9 2;device a 0;stream a a 1 1;stream a a 1 1;", 41, 3);
        fault("hub 9 2;device abcdefgh 0;device abcdefgh 1;", 33, 3);
        good("hub 9 2;device abcdefgh 0;device abcdefgi 1;", 0);
        good("hub 9 3;device ab 0;device ba 1;device a 2;", 0);
        good("hub 9 2;pattern a 1 1 crc;device a 0;stream a a 1 1;", 1);
        // the last name of a full list, and the first one
        fault(PORTS + patterns(5) + "pattern e 1 1 crc;", (PORTS + patterns(5)).length() + 8, 3);
        fault(PORTS + devices(7) + "device g 7;", (PORTS + devices(7)).length() + 7, 3);
        fault(PORTS + devices(1) + streams(11) + "stream k a 1 1;", (PORTS + devices(1) + streams(11)).length() + 7, 3);
        fault(PORTS + devices(1) + streams(11) + "stream a a 1 1;", (PORTS + devices(1) + streams(11)).length() + 7, 3);
        // the names of an earlier text are new again
        ForesightHub x = good("hub 9 2;pattern a 1 1 crc;device a 0;stream a a 1 1;", 1);
        due("parse", Checks.parse(x, "hub 9 2;pattern a 1 1 crc;device a 0;stream a a 1 1;"), 1);
    }

    private void repeatedPort() {
        at("TEXT", "a port at which an earlier device is;");
        fault("hub 9 2;device a 0;device b 0;", 28, 3);
        fault("hub 9 2;device a 1;device b 1;", 28, 3);
        fault("hub 9 2;device a 1;device b 0001;", 28, 3);
        fault("hub 9 8;device a 7;device b 0;device c 7;", 39, 3);
        good("hub 9 2;device a 1;device b 0;", 0);
        good(PORTS + devices(8), 0);
        // a number beyond the ports is out of range
        fault("hub 9 2;device a 1;device b 2;", 28, 4);
    }

    private void repeatedAlarm() {
        at("TEXT", "the word of a second alarm.");
        fault("hub 9 2;alarm 1 1;alarm 1 1;", 18, 3);
        fault("hub 9 2;alarm 1 1;alarm", 18, 3);
        fault("hub 9 2;alarm 1 1;  alarm;", 20, 3);
        fault("hub 9 2;alarm 1 1;alarms", 18, 1);
        good("hub 9 2;alarm 1 1;device alarm 0;stream alarm alarm 1 1;", 1);
    }

    private void rangeKind() {
        at("TEXT", "4 (range): a number that is out of its range.");
        fault("hub 0000 1;", 4, 4);
        fault("hub 1 0;", 6, 4);
        fault("hub  \n1000 1;", 6, 4);
        // an item that is no number is a fault in syntax
        fault("hub x 1;", 4, 1);
        fault("hub 1 ;", 6, 1);
    }

    private void tooManyStatements() {
        at("TEXT", "5 (too many): the word of a statement that would give too many;");
        String six = PORTS + patterns(6);
        String eight = PORTS + devices(8);
        String twelve = PORTS + devices(1) + streams(12);
        good(six, 0);
        good(eight, 0);
        good(twelve, 12);
        fault(six + "pattern", six.length(), 5);
        fault(six + " \npattern a 0 0;", six.length() + 2, 5);
        fault(eight + "device", eight.length(), 5);
        fault(eight + "  device a 9 heir;", eight.length() + 2, 5);
        fault(twelve + "stream", twelve.length(), 5);
        fault(twelve + " stream a x 0;", twelve.length() + 1, 5);
        fault(six + "patterns", six.length(), 1);
    }

    private void sixthError() {
        at("TEXT", "the sixth error of a pattern.");
        String five = "hub 9 1;pattern p 1 1 crc stall jitter power crc";
        good(five + ";", 0);
        for (String kind : new String[] {"crc", "stall", "jitter", "power"}) {
            fault(five + " " + kind + ";", five.length() + 1, 5);
            fault(five + " " + kind, five.length() + 1, 5);
            fault(five + "\n\n" + kind + " #", five.length() + 2, 5);
        }
        fault(five + " heir", five.length() + 1, 1);
        fault(five, five.length(), 1);
        // each pattern counts its own
        good("hub 9 1;pattern p 1 1 crc crc crc crc crc;pattern q 1 1 crc crc crc crc crc;", 0);
    }

    private void promise1() {
        at(1, "Creates a hub with one unit and one port, without anything else, with an empty input buffer.");
        ForesightHub x = new ForesightHub();
        int[] sizes = {0, 0, 0, 1, 1, 0, 0, 10, 5, 0};
        for (int what = 0; what <= 9; what++) {
            sizeIs(x, what, sizes[what]);
        }
        due("deviceAt(0)", x.deviceAt(0), -1);
        logIs(x);
        accountsAre(x, 0, 0, 0, 0, 0, 0, 0, 0, 0, 0);
        due("cause(0, 0)", x.cause(0, 0), -1);
        due("weakest()", x.weakest(), -1);
        due("rightShare()", x.rightShare(), 0.0);
        due("the first append", x.append(0, 0, 0, 0, 0), 20);
        due("all as behind the text of one unit and one port", Checks.allOf(new ForesightHub()),
                Checks.allOf(hub("hub 1 1;")));
        Supplier<ForesightHub> fresh = ForesightHub::new;
        refused(fresh, "deviceAt(-1)", INDEX, h -> h.deviceAt(-1));
        refused(fresh, "deviceAt(1)", INDEX, h -> h.deviceAt(1));
        refused(fresh, "device(0, 0)", INDEX, h -> h.device(0, 0));
        refused(fresh, "stream(0, 0)", INDEX, h -> h.stream(0, 0));
        refused(fresh, "packets(0)", INDEX, h -> h.packets(0));
        refused(fresh, "fail(0, 0)", INDEX, h -> h.fail(0, 0));
        refused(fresh, "warn(0)", INDEX, h -> h.warn(0));
        refused(fresh, "plug(0, 0)", INDEX, h -> h.plug(0, 0));
        refused(fresh, "parse(1)", ARGUMENT, h -> h.parse(1));
        idle(fresh, "undo()", -1, ForesightHub::undo);
        idle(fresh, "restoreSnapshot(0)", false, h -> h.restoreSnapshot(0));
        idle(fresh, "restoreSnapshot(1)", false, h -> h.restoreSnapshot(1));
    }

    private void promise2() {
        at(2, "Appends twenty bytes to the input buffer: the four bytes of a, then those of b, c, d and e, each with "
                + "the most significant byte first.");
        ForesightHub x = new ForesightHub();
        // "hub ", "12 5", ";ala", "rm 9", " 87;"
        due("append", x.append(0x68756220, 0x31322035, 0x3b616c61, 0x726d2039, 0x2038373b), 20);
        due("parse(20)", x.parse(20), 0);
        int[] sizes = {12, 5, 0, 0, 9, 87};
        for (int what = 3; what <= 8; what++) {
            sizeIs(x, what, sizes[what - 3]);
        }
        // a byte with its highest bit set is one byte, whatever comes before it in its number
        due("append", x.append(0x80000000, -1, MIN, MAX, 0), 20);
        due("parse(20)", x.parse(20), Checks.fault(0, 1));
        due("append", x.append(0x68756220, 0x312031ff, 0, 0, 0), 20);
        due("parse(20)", x.parse(20), Checks.fault(7, 1));
        at(2, "Returns the new length of the buffer;");
        for (int length = 20; length <= 600; length += 20) {
            due("append", x.append(-1, -1, -1, -1, -1), length);
        }
        at(2, "NONE, with nothing appended, if the buffer would have more than 600 bytes.");
        due("append to 600 bytes", x.append(0, 0, 0, 0, 0), -1);
        due("append to 600 bytes", x.append(0, 0, 0, 0, 0), -1);
        ForesightHub y = new ForesightHub();
        Checks.append(y, of600("hub 3 3;", "alarm 7 8;"));
        due("append to 600 bytes", y.append(0x23232323, 0x23232323, 0x23232323, 0x23232323, 0x23232323), -1);
        c.thrown(y, "parse(601)", ARGUMENT, () -> y.parse(601));
        due("parse(600)", y.parse(600), 0);
        sizeIs(y, 8, 8);
        due("append to the emptied buffer", y.append(0, 0, 0, 0, 0), 20);
        Supplier<ForesightHub> full = () -> {
            ForesightHub z = busy.get();
            for (int i = 0; i < 29; i++) {
                z.append(0x20202020, 0x20202020, 0x20202020, 0x20202020, 0x20202020);
            }
            return z;
        };
        idle(full, "append to 600 bytes", -1, z -> z.append(1, 2, 3, 4, 5));
    }

    private void promise3() {
        at(3, "Parses the first length bytes of the input buffer as a hub");
        ForesightHub x = new ForesightHub();
        Checks.append(x, "hub 7 3;alarm 8 9;hub");
        due("parse(8)", x.parse(8), 0);
        sizeIs(x, 7, 10);
        Checks.append(x, "hub 7 3;alarm 8 9;hub");
        due("parse(18)", x.parse(18), 0);
        sizeIs(x, 7, 8);
        Checks.append(x, "hub 7 3;alarm 8 9;hub");
        due("parse(19)", x.parse(19), Checks.fault(18, 1));
        Checks.append(x, "hub 7 3;alarm 8 98;");
        due("parse(17), in the midst of a number", x.parse(17), Checks.fault(17, 1));
        Checks.append(x, "hub 7 3;device abcdefghi 0;");
        due("parse(23), in the midst of a run that is too long", x.parse(23), Checks.fault(23, 1));
    }

    private void promise3Length() {
        at(3, "`length`: number of bytes, 0 to the length of the buffer");
        ForesightHub x = new ForesightHub();
        due("parse(0) of an empty buffer", x.parse(0), Checks.fault(0, 1));
        Checks.append(x, "hub 7 3;");
        due("parse(0) of twenty bytes", x.parse(0), Checks.fault(0, 1));
        Checks.append(x, " hub 7 3;");
        due("parse(0) of twenty bytes, the first of which is white space", x.parse(0), Checks.fault(0, 1));
        Checks.append(x, " hub 7 3;");
        due("parse(1) of these", x.parse(1), Checks.fault(1, 1));
        Checks.append(x, "hub 7 3;            ");
        due("parse(20) of twenty bytes", x.parse(20), 0);
        Checks.append(x, of600("hub 7 3;", ""));
        due("parse(600) of six hundred bytes", x.parse(600), 0);
        at(3, "Throws `IllegalArgumentException` if length is out of range (the buffer stays as it is)");
        for (int length : new int[] {-1, -20, 21, 40, 600, 601, MIN, MAX}) {
            refused("parse(" + length + ") of twenty bytes", ARGUMENT, h -> h.parse(length));
        }
        Supplier<ForesightHub> emptied = () -> {
            ForesightHub z = busy.get();
            z.parse(0);
            return z;
        };
        refused(emptied, "parse(1) of an empty buffer", ARGUMENT, h -> h.parse(1));
        refused(emptied, "parse(-1) of an empty buffer", ARGUMENT, h -> h.parse(-1));
    }

    private void promise3Replaces() {
        at(3, "and replaces the current one by it.");
        ForesightHub x = busy.get();
        due("parse(20)", x.parse(20), 0);
        due("all that can be asked for, then", deepOf(x), deepOf(hub("hub 7 3;device q 1;")));
    }

    private void promise3Answer() {
        at(3, "Returns the number of streams;");
        good("hub 99 1;device a 0;", 0);
        good("hub 99 1;device a 0;" + streams(1), 1);
        good("hub 99 1;device a 0;" + streams(12), 12);
        at(3, "-2 - (8 * offset + kind) for a syntax error.");
        due("a fault at 0", Checks.parse(new ForesightHub(), "x"), -3);
        due("a fault at 4", Checks.parse(new ForesightHub(), "hub 0 1;"), -38);
        due("a fault of kind 5", Checks.parse(new ForesightHub(), PORTS + devices(9)), -2 - (8 * 96 + 5));
        due("a fault at 599", Checks.parse(new ForesightHub(), of600("hub 1 1;", "#")), -4795);
        due("a fault at 600", Checks.parse(new ForesightHub(), of600("", "")), -4803);
    }

    private void promise3Buffer() {
        at(3, "After a success or a syntax error the whole buffer is empty.");
        for (int length : new int[] {0, 8, 10, 40}) {
            ForesightHub x = new ForesightHub();
            Checks.append(x, "hub 7 3; " + "#".repeat(31));
            due("parse(" + length + ") succeeds", x.parse(length) == 0, length == 8);
            c.thrown(x, "parse(1) then", ARGUMENT, () -> x.parse(1));
            due("append then", x.append(0x68756220, 0x3920383b, 0, 0, 0), 20);
            due("parse(8) then", x.parse(8), 0);
            sizeIs(x, 3, 9);
        }
    }

    private void promise3Stays() {
        at(3, "After a syntax error everything else stays as it is.");
        Supplier<ForesightHub> emptied = () -> {
            ForesightHub z = busy.get();
            z.parse(0);
            return z;
        };
        for (String text : new String[] {"", "#", "hub 0 1;", "hub 9 2;device a 0;device a 1;", "hub 9 2;alarm 3 3;;",
            START + "stream t a 10 1;", "hub 9 1;pattern z 9 9 power power;device z 0;stream z z 1 1;alarm 1 1;device z"}) {
            idle(emptied, "parse of \"" + text + "\" fails", true, h -> Checks.parse(h, text) < -2);
        }
    }

    /** Each text begins with nothing, whatever the texts before it have told, right or wrong ones. */
    private void promise3NothingLeft() {
        at(3, "Parses the first length bytes of the input buffer as a hub and replaces the current one by it.");
        String full = PORTS + patterns(6) + devices(8) + streams(12) + "alarm 3 3;";
        ForesightHub x = new ForesightHub();
        for (int i = 0; i < 3; i++) {
            due("parse of a full text", Checks.parse(x, full), 12);
            due("parse of a full text with a fault", Checks.parse(x, full + "#"), Checks.fault(full.length(), 1));
            due("parse of a text with less", Checks.parse(x, PORTS + patterns(2) + devices(1) + streams(3)), 3);
            due("all as in a new object", deepOf(x),
                    deepOf(hub(PORTS + patterns(2) + devices(1) + streams(3))));
            due("parse of the least text", Checks.parse(x, "hub 1 1;"), 0);
            due("all as in a new object", Checks.allOf(x), Checks.allOf(new ForesightHub()));
        }
    }
}
