import java.io.IOException;
import java.lang.reflect.Method;
import java.lang.reflect.Modifier;
import java.nio.file.Files;
import java.nio.file.Path;
import java.util.regex.Matcher;
import java.util.regex.Pattern;

/** The example of README.md answers what it says there, and README.md names every call. It runs in the project's folder. */
final class ReadmeTest {
    private static final String FIRST_LINE = "MosaicFloor floor = new MosaicFloor();";
    private static final Pattern CALL = Pattern.compile("floor\\.(\\w+)\\((.*)\\); +// (-?\\d+)(:.*)?");

    public static void main(String[] args) throws IOException, ReflectiveOperationException {
        Due due = new Due("ReadmeTest");
        String readme = Files.readString(Path.of("README.md"));
        answersAreAsTold(due, readme);
        everyCallIsNamed(due, readme);
        due.end();
    }

    private static void answersAreAsTold(Due due, String readme) throws ReflectiveOperationException {
        Matcher example = Pattern.compile("(?s)```java\n(.*?)```").matcher(readme);
        due.is("there is an example", example.find() ? 1 : 0, 1);
        String[] lines = example.group(1).split("\n+");
        due.is("it begins with a new floor", lines[0].startsWith(FIRST_LINE) ? 1 : 0, 1);
        MosaicFloor floor = new MosaicFloor();
        for (int i = 1; i < lines.length; i++) {
            Matcher call = CALL.matcher(lines[i]);
            due.is("a call with its answer is: " + lines[i], call.matches() ? 1 : 0, 1);
            due.is(lines[i], answer(floor, call.group(1), call.group(2)), Integer.parseInt(call.group(3)));
        }
    }

    private static int answer(MosaicFloor floor, String name, String arguments) throws ReflectiveOperationException {
        String[] words = arguments.isEmpty() ? new String[0] : arguments.split(", ");
        Class<?>[] types = new Class<?>[words.length];
        Object[] values = new Object[words.length];
        for (int i = 0; i < words.length; i++) {
            types[i] = int.class;
            values[i] = words[i].startsWith("'") ? words[i].charAt(1) : Integer.parseInt(words[i]);
        }
        return (int) MosaicFloor.class.getMethod(name, types).invoke(floor, values);
    }

    private static void everyCallIsNamed(Due due, String readme) {
        for (Method method : MosaicFloor.class.getDeclaredMethods()) {
            if (Modifier.isPublic(method.getModifiers())) {
                due.is(method.getName() + " is in the table", readme.contains("| `" + method.getName() + "(") ? 1 : 0, 1);
                due.is(method.getName() + " is in the example", readme.contains("floor." + method.getName() + "(") ? 1 : 0, 1);
            }
        }
    }
}
