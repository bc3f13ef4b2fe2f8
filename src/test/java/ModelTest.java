import java.lang.reflect.InvocationTargetException;
import java.lang.reflect.Method;
import java.util.Arrays;
import java.util.HashMap;
import java.util.Map;

/** Long runs of drawn calls, each answered by the class and by NaiveHub; all of both is compared again and again. */
public final class ModelTest {
    private static final int RUNS = 250;
    private static final int CALLS = 300;

    private final Checks checks = new Checks();
    private final Map<String, Method> methods = new HashMap<>();
    private long seed;

    public static void main(String[] args) {
        ModelTest test = new ModelTest();
        for (int run = 0; run < RUNS; run++) {
            test.run(run);
        }
        test.texts();
        test.checks.end();
    }

    /** Numbers from 0 to below, the same at every start of the test. */
    private int draw(int below) {
        seed = seed * 6364136223846793005L + 1442695040888963407L;
        return (int) ((seed >>> 33) % below);
    }

    private void run(int run) {
        seed = run * 7919L + 17;
        ForesightHub hub = new ForesightHub();
        NaiveHub model = new NaiveHub();
        giveText(hub, model, goodText());
        for (int call = 0; call < CALLS; call++) {
            checks.at("run " + run + " call " + call);
            drawCall(hub, model);
            if (call % 8 == 0) {
                compareAll(hub, model);
            }
        }
        compareAll(hub, model);
    }

    private void drawCall(ForesightHub hub, NaiveHub model) {
        int device = draw(40) == 0 ? draw(12) - 2 : draw(Math.max(1, hub.size(1)));
        int sort = draw(100);
        if (sort < 32) {
            both(hub, model, "fail", device, draw(40) == 0 ? draw(8) - 2 : draw(4));
        } else if (sort < 62) {
            both(hub, model, "frames", draw(12) == 0 ? draw(210) - 5 : 1 + draw(4));
        } else if (sort < 67) {
            both(hub, model, "warn", device);
        } else if (sort < 70) {
            both(hub, model, "callOff", device);
        } else if (sort < 75) {
            both(hub, model, "unplug", device);
        } else if (sort < 84) {
            both(hub, model, "plug", device, draw(hub.size(4) + 2) - 1);
        } else if (sort < 87) {
            both(hub, model, "setScore", draw(6) == 0 ? draw(1010) - 5 : 1 + draw(40));
        } else if (sort < 93) {
            both(hub, model, "undo");
        } else if (sort < 96) {
            both(hub, model, "saveSnapshot", draw(4) - 1);
        } else if (sort < 98) {
            both(hub, model, "restoreSnapshot", draw(4) - 1);
        } else if (draw(4) == 0) {
            giveText(hub, model, draw(2) == 0 ? goodText() : spoiled(goodText()));
        }
    }

    private void texts() {
        seed = 4711;
        ForesightHub hub = new ForesightHub();
        NaiveHub model = new NaiveHub();
        for (int text = 0; text < 4000; text++) {
            checks.at("text " + text);
            giveText(hub, model, draw(4) == 0 ? goodText() : spoiled(goodText()));
            if (text % 50 == 0) {
                compareAll(hub, model);
            }
        }
    }

    private String goodText() {
        int whole = 1 + draw(draw(3) == 0 ? 999 : 40);
        int ports = 1 + draw(8);
        StringBuilder text = new StringBuilder("hub " + whole + " " + ports + ";");
        String[] kinds = {"crc", "stall", "jitter", "power"};
        int patterns = draw(7);
        for (int p = 0; p < patterns; p++) {
            text.append("pattern ").append((char) ('a' + p)).append(' ').append(1 + draw(draw(3) == 0 ? 99 : 9));
            text.append(' ').append(1 + draw(draw(3) == 0 ? 200 : 20));
            for (int e = draw(5); e >= 0; e--) {
                text.append(' ').append(kinds[draw(draw(2) == 0 ? 2 : 4)]);
            }
            text.append(";\n");
        }
        int devices = draw(8) == 0 ? 0 : 1 + draw(ports);
        int turn = draw(ports);
        for (int d = 0; d < devices; d++) {
            text.append("device ").append((char) ('a' + d)).append(' ').append((d + turn) % ports);
            if (d > 0 && draw(3) > 0) {
                text.append(" heir ").append((char) ('a' + draw(d)));
            }
            text.append(';');
        }
        int streams = devices == 0 ? 0 : draw(13);
        for (int s = 0; s < streams; s++) {
            text.append("stream ").append((char) ('a' + s)).append(' ').append((char) ('a' + draw(devices)));
            text.append(' ').append(1 + draw(Math.max(1, whole / (1 + draw(6))))).append(' ');
            text.append(1 + draw(draw(4) == 0 ? 9999 : 30)).append(';');
        }
        if (draw(4) > 0) {
            text.append("alarm ").append(1 + draw(draw(4) == 0 ? 999 : 20)).append(' ').append(1 + draw(9)).append(";");
        }
        return text.length() > 600 ? goodText() : text.toString();
    }

    /** The text with one token or one byte put in, taken out or put in place of another. */
    private String spoiled(String text) {
        String[] pieces = {"", " ", ";", "hub", "pattern", "device", "stream", "alarm", "heir", "crc", "stall", "a",
            "b", "zz", "0", "1", "7", "8", "99", "100", "200", "201", "999", "1000", "9999", "12345", "abcdefgh",
            "abcdefghi", "#", "A", "\u00e9", "\u0000", "\t", "\n", ";;", "device q 0", "alarm 1 1;",
            "pattern z 1 1 crc crc crc crc crc crc;", "stream q a 1 1;", "pattern q 1 1 power;"};
        int from = draw(text.length() + 1);
        if (draw(3) > 0) {
            while (from > 0 && text.charAt(from - 1) != ' ' && text.charAt(from - 1) != ';') {
                from--;
            }
        }
        int to = Math.min(text.length(), from + draw(3));
        if (draw(2) == 0) {
            while (to < text.length() && text.charAt(to) != ' ' && text.charAt(to) != ';') {
                to++;
            }
        }
        String piece = pieces[draw(pieces.length)];
        String space = draw(2) == 0 ? " " : "";
        String end = draw(8) == 0 ? "" : text.substring(to);
        String result = text.substring(0, from) + space + piece + space + end;
        return result.length() > 600 ? result.substring(0, 600) : result;
    }

    private void giveText(ForesightHub hub, NaiveHub model, String text) {
        StringBuilder padded = new StringBuilder(text);
        while (padded.length() % 20 != 0) {
            padded.append((char) draw(256));
        }
        for (int from = 0; from < padded.length(); from += 20) {
            int[] five = new int[5];
            for (int i = 0; i < 20; i++) {
                five[i / 4] = five[i / 4] * 256 + padded.charAt(from + i);
            }
            both(hub, model, "append", five[0], five[1], five[2], five[3], five[4]);
        }
        both(hub, model, "parse", padded.length() + 1 + draw(5));
        both(hub, model, "parse", -1 - draw(5));
        both(hub, model, "parse", text.length());
    }

    private void both(ForesightHub hub, NaiveHub model, String name, int... numbers) {
        Object got = answer(hub, name, numbers);
        Object want = answer(model, name, numbers);
        checks.due(got.equals(want) ? name : name + Arrays.toString(numbers), got, want);
    }

    private Object answer(Object target, String name, int[] numbers) {
        try {
            Object[] boxed = new Object[numbers.length];
            for (int i = 0; i < numbers.length; i++) {
                boxed[i] = numbers[i];
            }
            return method(target, name).invoke(target, boxed);
        } catch (InvocationTargetException e) {
            return "throws " + e.getCause().getClass().getName();
        } catch (IllegalAccessException e) {
            throw new IllegalStateException(e);
        }
    }

    private Method method(Object target, String name) {
        String key = target.getClass().getName() + "." + name;
        if (!methods.containsKey(key)) {
            for (Method method : target.getClass().getDeclaredMethods()) {
                if (method.getName().equals(name)
                        && java.lang.reflect.Modifier.isPublic(method.getModifiers())) {
                    method.setAccessible(true);
                    methods.put(key, method);
                }
            }
        }
        return methods.get(key);
    }

    private void compareAll(ForesightHub hub, NaiveHub model) {
        for (int i = -1; i <= 12; i++) {
            both(hub, model, "size", i);
            both(hub, model, "deviceAt", i);
            both(hub, model, "account", i);
            both(hub, model, "packets", i);
            both(hub, model, "feared", i);
            both(hub, model, "framesToClear", i);
            both(hub, model, "atStake", i);
            both(hub, model, "whyNotRunning", i);
            for (int j = -1; j <= 8; j++) {
                both(hub, model, "device", i, j);
                both(hub, model, "stream", i, j);
            }
            for (int j = -1; j <= 4; j++) {
                both(hub, model, "scoreWith", i, j);
            }
        }
        for (int device = -1; device <= hub.size(1); device++) {
            for (int k = -1; k <= 12; k++) {
                both(hub, model, "error", device, k, draw(4) - 1);
                both(hub, model, "error", device, k, 0);
                both(hub, model, "error", device, k, 1);
            }
        }
        for (int part = -1; part <= 3; part++) {
            for (int k = -1; k <= 33; k++) {
                both(hub, model, "cause", k, part);
                both(hub, model, "event", k, part);
            }
        }
        both(hub, model, "weakest");
        both(hub, model, "rightShare");
    }
}
