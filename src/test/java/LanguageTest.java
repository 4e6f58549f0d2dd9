import java.io.IOException;
import java.lang.reflect.Constructor;
import java.lang.reflect.Field;
import java.lang.reflect.Method;
import java.lang.reflect.Modifier;
import java.nio.file.Files;
import java.nio.file.Path;
import java.util.Arrays;
import java.util.List;
import java.util.Map;
import java.util.Set;
import java.util.TreeMap;
import java.util.TreeSet;
import java.util.regex.Matcher;
import java.util.regex.Pattern;

/** The rules of LANGUAGE.md that a look at the class and at its text can check. Its argument is the path of the class. */
public final class LanguageTest {
    private static final List<String> FACE = List.of(
        "first(int)", "tracks(int, int)", "running(int, int)", "shuttle(int, int, int, int, int)", "late(int, int)",
        "prefer(int, int)", "remove(int)", "ofShuttle(int, int)", "count(int)", "day(int)", "at(int, int)",
        "when(int, int, int)", "why(int, int)", "meeting(int, int)", "delayIfLate(int, int)", "delayIfSlow(int, int)",
        "bestTrack(int)", "bestOrder(int)", "put(long)", "wipe()", "fault()", "carryOut()", "undo()", "save(int)",
        "restore(int)");
    private static final List<String> CONSTANTS =
        List.of("NO_SUCH", "BAD_VALUE", "BAD_TEXT", "TOO_MANY", "NOT_POSSIBLE", "NONE");
    private static final String[] RULED_OUT = {
        "\\bthrows?\\b", "\\btry\\b", "\\bcatch\\b", "\\bfinally\\b", "\\bsynchronized\\b", "\\bassert\\b", "->", "::",
        "\\bpackage\\b", "\\bprotected\\b", "\\bnative\\b", "\\bvolatile\\b", "\\bstatic\\s*\\{", "Exact\\b",
        "\\bSystem\\.(?!arraycopy\\b)", "\\bMath\\.(?!(max|min|abs)\\b)", "\\bArrays\\.(?!fill\\b)",
        // It is allowed over numbers alone.
        "\\bArrays\\.fill\\(.*\\b(true|false|null)\\b",
        "\\bimport (?!java\\.util\\.Arrays;)", "\\b(equals|hashCode|toString)\\b", "\\bwhile \\(true\\)", "for \\(;"};

    private static final Pattern METHOD =
        Pattern.compile("^( {4,8})(private |public |static )*\\w+(\\[\\])* (\\w+)\\((.*)\\) \\{$");
    private static final int DEEPEST = 8;

    private static final Due due = new Due();

    public static void main(String[] args) throws IOException {
        if (args.length != 1) {
            System.out.println("LanguageTest needs the path of the class");
            System.exit(1);
        }
        String text = withoutComments(Files.readString(Path.of(args[0])));
        face();
        namesOfPrivateMethods();
        classesInside();
        ruledOut(text);
        objects(text);
        methods(text);
        depth(text);
        due.end("LanguageTest");
    }

    private static String withoutComments(String text) {
        String bare = text.replaceAll("(?s)/\\*.*?\\*/", "").replaceAll("//[^\n]*", "");
        return bare.replaceAll("'(\\\\.|[^'\\\\])'", "'c'").replaceAll("\"(\\\\.|[^\"\\\\])*\"", "\"s\"");
    }

    private static String signature(Method method) {
        String types = Arrays.toString(Arrays.stream(method.getParameterTypes()).map(Class::getName).toArray());
        return method.getName() + "(" + types.substring(1, types.length() - 1) + ")";
    }

    private static void face() {
        due.about("rule 1, the face");
        due.is("public final", PassingTrack.class.getModifiers(), Modifier.PUBLIC | Modifier.FINAL);
        TreeSet<String> open = new TreeSet<>();
        for (Method method : PassingTrack.class.getDeclaredMethods()) {
            if (!Modifier.isPrivate(method.getModifiers()) && !method.isSynthetic()) {
                open.add(signature(method));
                due.is("a public int method: " + signature(method),
                    method.getModifiers() == Modifier.PUBLIC && method.getReturnType() == int.class ? 1 : 0, 1);
            }
        }
        due.is("the methods are those of the document: " + open, open.equals(new TreeSet<>(FACE)) ? 1 : 0, 1);
        for (Field field : PassingTrack.class.getDeclaredFields()) {
            boolean constant = CONSTANTS.contains(field.getName());
            due.is("field " + field, Modifier.isPrivate(field.getModifiers()) != constant ? 1 : 0, 1);
            due.is("static is final: " + field,
                !Modifier.isStatic(field.getModifiers()) || Modifier.isFinal(field.getModifiers()) ? 1 : 0, 1);
        }
        Constructor<?>[] constructors = PassingTrack.class.getDeclaredConstructors();
        due.is("constructors", constructors.length, 1);
        due.is("public constructor", constructors[0].getModifiers(), Modifier.PUBLIC);
    }

    private static void namesOfPrivateMethods() {
        due.about("rule 1, names");
        TreeSet<String> names = new TreeSet<>();
        for (String signature : FACE) {
            names.add(signature.substring(0, signature.indexOf('(')));
        }
        for (Class<?> inside : PassingTrack.class.getDeclaredClasses()) {
            for (Method method : inside.getDeclaredMethods()) {
                due.is("a name of the face: " + method, names.contains(method.getName()) ? 1 : 0, 0);
            }
        }
        for (Method method : PassingTrack.class.getDeclaredMethods()) {
            boolean hidden = Modifier.isPrivate(method.getModifiers());
            due.is("a name of the face: " + method, hidden && names.contains(method.getName()) ? 1 : 0, 0);
        }
    }

    private static void classesInside() {
        due.about("rules 2 and 11");
        Class<?>[] inside = PassingTrack.class.getDeclaredClasses();
        due.is("some twelve classes at the most", inside.length <= 11 ? 1 : 0, 1);
        fieldsOf(PassingTrack.class);
        for (Class<?> one : inside) {
            due.is("static: " + one, Modifier.isStatic(one.getModifiers()) ? 1 : 0, 1);
            due.is("not public or protected: " + one, one.getModifiers() & (Modifier.PUBLIC | Modifier.PROTECTED), 0);
            due.is("no class inside a class inside: " + one, one.getDeclaredClasses().length, 0);
            fieldsOf(one);
        }
    }

    private static void fieldsOf(Class<?> one) {
        int fields = 0;
        for (Field field : one.getDeclaredFields()) {
            if (!Modifier.isStatic(field.getModifiers())) {
                fields++;
            }
        }
        due.is("some twenty fields at the most: " + one + " has " + fields, fields <= 20 ? 1 : 0, 1);
    }

    private static void ruledOut(String text) {
        due.about("rules 3 to 10");
        for (String pattern : RULED_OUT) {
            Matcher matcher = Pattern.compile(pattern).matcher(text);
            due.is("what is ruled out: " + pattern, matcher.find() ? 1 : 0, 0);
        }
        due.is("signs above 127", text.chars().filter(sign -> sign > 127).count(), 0);
    }

    /** Objects are made by constructors alone: the room is small. */
    private static void objects(String text) {
        due.about("the room");
        int elsewhere = 0;
        String constructor = "";
        for (String line : text.split("\n")) {
            Matcher begin = Pattern.compile("^ {4,8}(public )?[A-Z]\\w*\\(.*\\) \\{$").matcher(line);
            if (begin.find()) {
                constructor = line.replaceAll("\\S.*", "") + "}";
            } else if (line.equals(constructor)) {
                constructor = "";
            }
            boolean field = line.matches(" +(private )?final .* = new .*;");
            if (line.contains("new ") && !field && constructor.isEmpty()) {
                elsewhere++;
                System.out.println(line);
            }
        }
        due.is("objects that are made outside of constructors", elsewhere, 0);
    }

    private static void methods(String text) {
        due.about("rule 11");
        int length = 0;
        String end = "";
        int found = 0;
        for (String line : text.split("\n")) {
            Matcher matcher = METHOD.matcher(line);
            length++;
            if (end.isEmpty() && matcher.find()) {
                end = matcher.group(1) + "}";
                length = 1;
                found++;
                due.is("at most seven parameters: " + line, matcher.group(5).split(",").length <= 7 ? 1 : 0, 1);
            } else if (line.equals(end)) {
                due.is("a method of " + length + " lines", length <= 60 ? 1 : 0, 1);
                end = "";
            }
        }
        due.is("methods are found", found > 60 ? 1 : 0, 1);
    }

    /** Methods of one name count as one, which can only make the calls deeper. */
    private static void depth(String text) {
        due.about("rule 11, calls");
        Map<String, Set<String>> calls = new TreeMap<>();
        String inside = "";
        String end = "";
        for (String line : text.split("\n")) {
            Matcher head = METHOD.matcher(line);
            if (end.isEmpty() && head.find()) {
                inside = head.group(4);
                end = head.group(1) + "}";
                calls.putIfAbsent(inside, new TreeSet<>());
            } else if (line.equals(end)) {
                end = "";
            } else if (!end.isEmpty()) {
                Matcher call = Pattern.compile("(?<!new )\\b(\\w+)\\(").matcher(line);
                while (call.find()) {
                    calls.get(inside).add(call.group(1));
                }
            }
        }
        for (String name : calls.keySet()) {
            int levels = levels(calls, name, 1);
            due.is("calls from " + name + "() go " + levels + " deep", levels <= DEEPEST ? 1 : 0, 1);
        }
    }

    /** How deep the calls from a method go, itself one level; methods that call one another come out too deep. */
    private static int levels(Map<String, Set<String>> calls, String name, int level) {
        int deepest = level;
        for (String called : calls.getOrDefault(name, Set.of())) {
            if (calls.containsKey(called) && level <= DEEPEST) {
                deepest = Math.max(deepest, levels(calls, called, level + 1));
            }
        }
        return deepest;
    }
}
