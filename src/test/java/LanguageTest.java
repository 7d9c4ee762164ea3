import java.io.IOException;
import java.nio.file.Files;
import java.nio.file.Path;
import java.util.regex.Matcher;
import java.util.regex.Pattern;

/** Those rules of LANGUAGE.md for MosaicFloor.java that can be seen in its words. It runs in the project's folder. */
final class LanguageTest {
    private static final String[] FORBIDDEN = {
        "\\bpackage\\b", "\\bthrows?\\b", "\\btry\\b", "\\bcatch\\b", "\\bsynchronized\\b", "\\bassert\\b",
        "\\bprotected\\b", "\\bvar\\b", "->", "::", "\\bequals\\b", "\\bhashCode\\b", "\\btoString\\b",
        "\\bObject\\b", "\\bSystem\\.(?!arraycopy)", "\\bMath\\.\\w+Exact\\b", "\\bstatic\\s*\\{",
        "\\bimport (?!java\\.util\\.(Arrays|ArrayList|List|Iterator);)"};
    private static final int LONGEST_METHOD = 60;

    public static void main(String[] args) throws IOException {
        Due due = new Due("LanguageTest");
        String source = Files.readString(Path.of("src/main/java/MosaicFloor.java"));
        due.is("signs above 127", source.chars().filter(sign -> sign > 127).count(), 0);
        String code = source.replaceAll("(?s)/\\*.*?\\*/", "").replaceAll("//[^\n]*", "");
        for (String words : FORBIDDEN) {
            Matcher matcher = Pattern.compile(words).matcher(code);
            due.is("uses of " + words, matcher.results().count(), 0);
        }
        due.is("classes are at most twelve", Pattern.compile("\\bclass ").matcher(code).results().count() <= 12 ? 1 : 0, 1);
        methodsAreShort(due, source);
        due.end();
    }

    /** A method begins and ends with lines of the same indentation, of 4 or 8 blanks. */
    private static void methodsAreShort(Due due, String source) {
        Matcher method = Pattern.compile("(?m)^( {4}| {8})\\S[^\n]*\\) \\{\n(?s:.*?)^\\1\\}").matcher(source);
        while (method.find()) {
            String text = method.group();
            long lines = text.lines().count();
            due.is("short is " + text.lines().findFirst().orElse("").trim(), lines <= LONGEST_METHOD ? 1 : 0, 1);
        }
    }
}
