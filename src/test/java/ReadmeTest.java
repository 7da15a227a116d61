import java.io.IOException;
import java.lang.reflect.Field;
import java.lang.reflect.Method;
import java.lang.reflect.Modifier;
import java.nio.file.Files;
import java.nio.file.Path;
import java.util.List;
import java.util.regex.Matcher;
import java.util.regex.Pattern;

/** README.md says how to use the class: its example is played, and no call or constant is missing. */
public final class ReadmeTest {
    private static final Pattern CALL = Pattern.compile("disk\\.(\\w+)\\(([^)]*)\\);\\s*// ([^:]*).*");
    private static final int CALLS_OF_THE_EXAMPLE = 20;

    private static final Check CHECK = new Check();

    public static void main(String[] args) throws IOException {
        List<String> lines = Files.readAllLines(Path.of("README.md"));
        CHECK.sentence("README.md, 'An example'", () -> playExample(lines));
        CHECK.sentence("README.md, 'The calls'", () -> hasEachCall(lines));
        CHECK.sentence("README.md, 'The constants'", () -> hasEachConstant(lines));
        CHECK.end();
    }

    private static void playExample(List<String> lines) {
        SharedVolumes disk = new SharedVolumes(2, 3, 2, 3);
        int calls = 0;
        for (String line : lines) {
            Matcher call = CALL.matcher(line);
            if (call.matches()) {
                play(disk, call);
                calls++;
            }
        }
        CHECK.due("calls of the example", calls, CALLS_OF_THE_EXAMPLE);
    }

    private static void play(SharedVolumes disk, Matcher call) {
        Method method = methodNamed(call.group(1));
        try {
            Object got = method.invoke(disk, numbers(call.group(2)));
            if (method.getReturnType() != void.class) {
                CHECK.due(call.group(0), String.valueOf(got), answer(call.group(3).trim()));
            }
        } catch (ReflectiveOperationException thrown) {
            throw new IllegalStateException(call.group(0), thrown);
        }
    }

    private static Object[] numbers(String texts) {
        return Pattern.compile("-?\\d+").matcher(texts).results().map(found -> Integer.valueOf(found.group())).toArray();
    }

    private static String answer(String text) throws NoSuchFieldException {
        String ofClass = "SharedVolumes.";
        if (!text.startsWith(ofClass)) {
            return text;
        }
        return valueOf(SharedVolumes.class.getField(text.substring(ofClass.length())));
    }

    private static Method methodNamed(String name) {
        for (Method method : SharedVolumes.class.getDeclaredMethods()) {
            if (Modifier.isPublic(method.getModifiers()) && method.getName().equals(name)) {
                return method;
            }
        }
        throw new IllegalStateException("the class has no call " + name);
    }

    private static void hasEachCall(List<String> lines) {
        for (Method method : SharedVolumes.class.getDeclaredMethods()) {
            if (Modifier.isPublic(method.getModifiers())) {
                String row = "| `" + method.getName() + "(";
                CHECK.due("rows " + row, rows(lines, row), 1);
            }
        }
    }

    private static void hasEachConstant(List<String> lines) {
        for (Field field : SharedVolumes.class.getDeclaredFields()) {
            if (Modifier.isPublic(field.getModifiers())) {
                String row = "| `" + field.getName() + "` | " + valueOf(field) + " |";
                CHECK.due("rows " + row, rows(lines, row), 1);
            }
        }
    }

    private static String valueOf(Field constant) {
        try {
            return String.valueOf(constant.getInt(null));
        } catch (IllegalAccessException thrown) {
            throw new IllegalStateException(constant.getName(), thrown);
        }
    }

    // The spaces that set a table's columns under one another do not matter.
    private static int rows(List<String> lines, String start) {
        return (int) lines.stream().filter(line -> line.replaceAll(" +", " ").startsWith(start)).count();
    }
}
