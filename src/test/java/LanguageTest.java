import java.io.IOException;
import java.lang.reflect.Constructor;
import java.lang.reflect.Field;
import java.lang.reflect.Method;
import java.lang.reflect.Modifier;
import java.nio.file.Files;
import java.nio.file.Path;
import java.util.ArrayList;
import java.util.Arrays;
import java.util.List;
import java.util.Set;
import java.util.TreeSet;
import java.util.regex.Matcher;
import java.util.regex.Pattern;

/** The face of the class, and those rules of LANGUAGE.md that can be seen without reading for their sense. */
public final class LanguageTest {
    private static final String[] FACE = {
        "int append(int, int, int, int, int)",
        "int parse(int) IllegalArgumentException",
        "int size(int) IllegalArgumentException",
        "int deviceAt(int) IndexOutOfBoundsException",
        "int device(int, int) IndexOutOfBoundsException IllegalArgumentException",
        "int stream(int, int) IndexOutOfBoundsException IllegalArgumentException",
        "long packets(int) IndexOutOfBoundsException",
        "int error(int, int, int) IndexOutOfBoundsException IllegalArgumentException",
        "int cause(int, int) IllegalArgumentException",
        "int scoreWith(int, int) IndexOutOfBoundsException IllegalArgumentException",
        "int feared(int) IndexOutOfBoundsException",
        "int framesToClear(int) IndexOutOfBoundsException",
        "int atStake(int) IndexOutOfBoundsException",
        "int weakest()",
        "int whyNotRunning(int) IndexOutOfBoundsException",
        "int event(int, int) IllegalArgumentException",
        "int account(int) IllegalArgumentException",
        "double rightShare()",
        "int frames(int) IllegalArgumentException",
        "int fail(int, int) IndexOutOfBoundsException IllegalArgumentException IllegalStateException",
        "int warn(int) IndexOutOfBoundsException IllegalStateException",
        "int callOff(int) IndexOutOfBoundsException IllegalStateException",
        "int unplug(int) IndexOutOfBoundsException IllegalStateException",
        "int plug(int, int) IndexOutOfBoundsException IllegalStateException",
        "int setScore(int) IllegalArgumentException",
        "int undo()",
        "boolean saveSnapshot(int)",
        "boolean restoreSnapshot(int)",
    };

    private static final String FORBIDDEN = "\\b(import|package|try|catch|finally|synchronized|assert|instanceof|"
            + "equals|hashCode|toString|System\\.(?!arraycopy)|Thread|Random|Object|protected)\\b|->|::|@";

    private final Checks c = new Checks();

    public static void main(String[] args) throws IOException {
        LanguageTest test = new LanguageTest();
        test.face();
        test.members();
        test.source(Files.readString(Path.of("src/main/java/ForesightHub.java")));
        test.c.end();
    }

    private static String signature(Method method) {
        StringBuilder text = new StringBuilder(method.getReturnType() + " " + method.getName() + "(");
        for (int i = 0; i < method.getParameterCount(); i++) {
            text.append(i > 0 ? ", " : "").append(method.getParameterTypes()[i]);
        }
        text.append(")");
        for (Class<?> thrown : method.getExceptionTypes()) {
            text.append(" ").append(thrown.getSimpleName());
        }
        return text.toString();
    }

    private void face() {
        c.at("rule 1");
        Set<String> open = new TreeSet<>();
        for (Method method : ForesightHub.class.getDeclaredMethods()) {
            if (!Modifier.isPrivate(method.getModifiers())) {
                open.add(signature(method));
                c.due(method + " is public and of objects", method.getModifiers(), Modifier.PUBLIC);
            }
        }
        c.due("the face", open, new TreeSet<>(Arrays.asList(FACE)));
        c.due("the class", ForesightHub.class.getModifiers(), Modifier.PUBLIC | Modifier.FINAL);
        Constructor<?>[] constructors = ForesightHub.class.getDeclaredConstructors();
        c.due("constructors", constructors.length, 1);
        c.due("parameters", constructors[0].getParameterCount(), 0);
        c.due("the constructor", constructors[0].getModifiers(), Modifier.PUBLIC);
        for (Field field : ForesightHub.class.getDeclaredFields()) {
            c.due(field + " is private, or NONE",
                    Modifier.isPrivate(field.getModifiers()) || field.getName().equals("NONE"), true);
        }
    }

    private static List<Class<?>> classes() {
        List<Class<?>> all = new ArrayList<>(Arrays.asList(ForesightHub.class.getDeclaredClasses()));
        all.add(ForesightHub.class);
        return all;
    }

    private void members() {
        c.at("rules 1, 3, 5 and 11");
        Set<String> names = new TreeSet<>();
        for (String signature : FACE) {
            names.add(signature.split("[ (]")[1]);
        }
        c.due("at most twelve classes", classes().size() <= 12, true);
        for (Class<?> owner : classes()) {
            int fields = 0;
            for (Field field : owner.getDeclaredFields()) {
                boolean isStatic = Modifier.isStatic(field.getModifiers());
                fields += isStatic ? 0 : 1;
                c.due(field + " is of an object, or final", !isStatic || Modifier.isFinal(field.getModifiers()), true);
                c.due(field + " has a constant's type", !isStatic || field.getType() == int.class, true);
            }
            c.due(owner + " has at most twenty fields", fields <= 20, true);
            for (Method method : owner.getDeclaredMethods()) {
                c.due(method + " has at most seven parameters", method.getParameterCount() <= 7, true);
                c.due(method + " bears no public name", Modifier.isPublic(method.getModifiers())
                        || !names.contains(method.getName()), true);
            }
            if (owner != ForesightHub.class) {
                c.due(owner + " is hidden and static", owner.getModifiers() & (Modifier.PUBLIC | Modifier.PROTECTED
                        | Modifier.STATIC), Modifier.STATIC);
                c.due(owner + " holds no class", owner.getDeclaredClasses().length, 0);
            }
        }
    }

    private void source(String text) {
        c.at("the source");
        String code = text.replaceAll("/\\*\\*.*\\*/", "").replaceAll("//[^\n]*", "");
        Matcher word = Pattern.compile(FORBIDDEN).matcher(code.replaceAll("\"[^\"]*\"", "\"\""));
        while (word.find()) {
            c.due("a word outside the language", word.group(), "");
        }
        Matcher thrown = Pattern.compile("throw\\b[^;]*;").matcher(code);
        while (thrown.find()) {
            c.due(thrown.group() + " is of a kind that may be thrown", thrown.group().matches("throw new "
                    + "(IllegalArgument|IllegalState|IndexOutOfBounds)Exception\\(\"[a-z ]+\"\\);"), true);
        }
        for (char sign : text.toCharArray()) {
            c.due("a sign of the source", sign == '\n' || sign >= 32 && sign < 127, true);
        }
        methodLines(code.split("\n"));
        constructors(code);
    }

    /** Rule 12: a constructor calls other constructors alone, or methods without arguments, so it hands out nothing. */
    private void constructors(String code) {
        Matcher body = Pattern.compile("(?ms)^( *)(?:public )?[A-Z]\\w*\\([^)]*\\) \\{\n(.*?)^\\1\\}").matcher(code);
        int found = 0;
        while (body.find()) {
            found++;
            Matcher call = Pattern.compile("(?<!new )\\b(?!for\\b|if\\b|new\\b)[\\w.]+\\((?!\\))")
                    .matcher(body.group(2));
            while (call.find()) {
                c.due("a call in a constructor", body.group(2).substring(call.start()), "without arguments");
            }
            c.due("a constructor names itself", body.group(2).contains("this"), false);
        }
        c.due("constructors", found, 4);
    }

    /** A method is what opens a brace behind a parenthesis within a class; a class opens one without. */
    private void methodLines(String[] lines) {
        int depth = 0;
        int methodDepth = -1;
        int from = 0;
        int methods = 0;
        for (int i = 0; i < lines.length; i++) {
            boolean opens = lines[i].endsWith("{");
            if (opens && methodDepth < 0 && lines[i].contains(")")) {
                methodDepth = depth;
                from = i;
                methods++;
            }
            for (char sign : lines[i].toCharArray()) {
                depth += sign == '{' ? 1 : sign == '}' ? -1 : 0;
            }
            if (depth == methodDepth) {
                methodDepth = -1;
                c.due("lines of the method from line " + (from + 1) + " on are few", i - from < 60, true);
            }
        }
        c.due("methods were found", methods > 100, true);
    }
}
