import java.io.IOException;
import java.lang.reflect.Field;
import java.lang.reflect.Method;
import java.lang.reflect.Modifier;
import java.nio.file.Files;
import java.nio.file.Path;
import java.util.TreeSet;
import java.util.regex.Matcher;
import java.util.regex.Pattern;

/** The calls that README.md shows, with the answers that it tells. Its argument is the path of README.md. */
public final class ReadmeTest {
    private static final Pattern BLOCK = Pattern.compile("(?s)```java\n(.*?)```");
    private static final Pattern MADE = Pattern.compile("PassingTrack track = new PassingTrack\\(\\);( *//.*)?");
    private static final Pattern CALL = Pattern.compile("track\\.(\\w+)\\((.*?)\\); *// (-?\\w+)(:.*)?");
    private static final Pattern CONSTANT = Pattern.compile("\\| `(\\w+)` \\| (-?\\d+) \\|.*");

    private static final Due due = new Due();
    private static PassingTrack track = null;
    private static final TreeSet<String> shown = new TreeSet<>();

    private ReadmeTest() {
    }

    public static void main(String[] args) throws IOException, ReflectiveOperationException {
        if (args.length != 1) {
            System.out.println("ReadmeTest needs the path of README.md");
            System.exit(1);
        }
        String page = Files.readString(Path.of(args[0]));
        Matcher block = BLOCK.matcher(page);
        while (block.find()) {
            for (String line : block.group(1).split("\n")) {
                show(line);
            }
        }
        constants(page);
        due.about("README.md");
        for (Method method : PassingTrack.class.getDeclaredMethods()) {
            if (Modifier.isPublic(method.getModifiers())) {
                due.holds("it shows " + method.getName() + "()", shown.contains(method.getName()));
            }
        }
        due.end("ReadmeTest");
    }

    private static void show(String line) throws ReflectiveOperationException {
        due.about(line);
        if (MADE.matcher(line).matches()) {
            track = new PassingTrack();
            return;
        }
        Matcher call = CALL.matcher(line);
        due.holds("it is a call with its answer", call.matches());
        due.holds("there is an object", track != null);
        if (call.matches() && track != null) {
            shown.add(call.group(1));
            due.is(call.group(1), answer(call.group(1), call.group(2)), number(call.group(3)));
        }
    }

    private static long answer(String name, String arguments) throws ReflectiveOperationException {
        String[] texts = arguments.isEmpty() ? new String[0] : arguments.split(", ");
        Object[] values = new Object[texts.length];
        Class<?>[] types = new Class<?>[texts.length];
        for (int i = 0; i < texts.length; i++) {
            boolean isLong = texts[i].endsWith("L");
            long value = Long.decode(texts[i].replace("L", ""));
            types[i] = isLong ? long.class : int.class;
            values[i] = isLong ? (Object) value : (Object) Math.toIntExact(value);
        }
        return (Integer) PassingTrack.class.getMethod(name, types).invoke(track, values);
    }

    private static long number(String text) throws ReflectiveOperationException {
        return text.matches("-?\\d+") ? Long.parseLong(text) : PassingTrack.class.getField(text).getInt(null);
    }

    /** The table of the constants: all of them, with their values. */
    private static void constants(String page) throws ReflectiveOperationException {
        TreeSet<String> told = new TreeSet<>();
        Matcher constant = CONSTANT.matcher(page);
        while (constant.find()) {
            due.about(constant.group());
            told.add(constant.group(1));
            due.is(constant.group(1), number(constant.group(1)), number(constant.group(2)));
        }
        due.about("README.md");
        for (Field field : PassingTrack.class.getFields()) {
            due.holds("it tells " + field.getName(), told.contains(field.getName()));
        }
    }
}
