import java.io.IOException;
import java.lang.reflect.Field;
import java.lang.reflect.Method;
import java.lang.reflect.Modifier;
import java.nio.file.Files;
import java.nio.file.Path;
import java.util.regex.Matcher;
import java.util.regex.Pattern;

/** Those rules of LANGUAGE.md for MosaicFloor.java that can be seen in its words. It runs in the project's folder. */
final class LanguageTest {
    private static final String[] FORBIDDEN = {
        "\\bpackage\\b", "\\bthrows?\\b", "\\btry\\b", "\\bcatch\\b", "\\bsynchronized\\b", "\\bassert\\b",
        "\\bprotected\\b", "\\bvar\\b", "->", "::", "\\bequals\\b", "\\bhashCode\\b", "\\btoString\\b",
        "\\bObject\\b", "\\bSystem\\.(?!arraycopy)", "\\bMath\\.\\w+Exact\\b", "\\bstatic\\s*\\{",
        "\\bimport (?!java\\.util\\.(Arrays|ArrayList|List|Iterator);)"};
    private static final int LONGEST_METHOD = 60;

    public static void main(String[] args) throws IOException {
        Due due = new Due("LanguageTest");
        String source = Files.readString(Path.of("src/main/java/MosaicFloor.java"));
        due.is("signs above 127", source.chars().filter(sign -> sign > 127).count(), 0);
        String code = source.replaceAll("(?s)/\\*.*?\\*/", "").replaceAll("//[^\n]*", "");
        for (String words : FORBIDDEN) {
            Matcher matcher = Pattern.compile(words).matcher(code);
            due.is("uses of " + words, matcher.results().count(), 0);
        }
        due.is("classes are at most twelve", Pattern.compile("\\bclass ").matcher(code).results().count() <= 12 ? 1 : 0, 1);
        methodsAreShort(due, source);
        objectsAreMadeOnce(due, code);
        indexesAreTested(due, code);
        for (Class<?> inside : MosaicFloor.class.getDeclaredClasses()) {
            shapeIsSmall(due, inside);
        }
        shapeIsSmall(due, MosaicFloor.class);
        due.end();
    }

    /** A method begins and ends with lines of the same indentation, of 4 or 8 blanks. */
    private static void methodsAreShort(Due due, String source) {
        Matcher method = Pattern.compile("(?m)^( {4}| {8})\\S[^\n]*\\) \\{\n(?s:.*?)^\\1\\}").matcher(source);
        while (method.find()) {
            String text = method.group();
            long lines = text.lines().count();
            due.is("short is " + text.lines().findFirst().orElse("").trim(), lines <= LONGEST_METHOD ? 1 : 0, 1);
        }
    }

    /** In fields, and in the constructors that fill an array: what a call makes counts for all calls. */
    private static void objectsAreMadeOnce(Due due, String code) {
        for (String line : code.split("\n")) {
            if (line.contains("new ")) {
                boolean once = line.matches(" +(private )?final \\S+ \\w+ = new .*;") || line.matches(" +\\w+\\[i\\] = new \\w+\\(\\);");
                due.is("made once is:" + line, once ? 1 : 0, 1);
            }
        }
    }

    /** Rule 7: the last element, or one of a written number, is one that nobody looked at. */
    private static void indexesAreTested(Due due, String code) {
        Matcher blind = Pattern.compile("\\w\\[(\\d+|[\\w.]+\\.length - 1)\\]").matcher(code);
        due.is("indexes that are not tested", blind.results().count(), 0);
    }

    /** Rules 5 and 11: seven parameters, twenty fields, and static fields that are final. */
    private static void shapeIsSmall(Due due, Class<?> type) {
        int fields = 0;
        for (Field field : type.getDeclaredFields()) {
            boolean isStatic = Modifier.isStatic(field.getModifiers());
            fields += isStatic ? 0 : 1;
            boolean constant = Modifier.isFinal(field.getModifiers()) && field.getType().isPrimitive();
            due.is(type.getName() + "." + field.getName() + " is of an object or constant", !isStatic || constant ? 1 : 0, 1);
        }
        due.is(type.getName() + " has at most twenty fields", fields <= 20 ? 1 : 0, 1);
        for (Method method : type.getDeclaredMethods()) {
            due.is(type.getName() + "." + method.getName() + " has at most seven parameters",
                    method.getParameterCount() <= 7 ? 1 : 0, 1);
        }
    }
}
