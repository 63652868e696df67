import java.io.IOException;
import java.nio.file.Files;
import java.nio.file.Path;
import java.util.regex.Matcher;
import java.util.regex.Pattern;

/** The rules of LANGUAGE.md that can be seen in the text of the class. Runs in the project's folder. */
public final class LanguageTest {
    private static final Path SOURCE = Path.of("src", "main", "java", "TensionNet.java");
    private static final String[] REFUSED = {
        "\\bthrows?\\b", "\\btry\\b", "\\bcatch\\b", "\\bfinally\\b", "\\bsynchronized\\b", "\\bassert\\b", "->", "::",
        "\\bpackage\\b", "\\bprotected\\b", "\\bdouble\\b", "\\bfloat\\b", "\\bvar\\b", "\\bwhile\\b", "Exact\\b",
        "\\bstatic\\s*\\{", "\\bSystem\\.(?!arraycopy\\b)", "\\bThread\\b", "\\bBig(Integer|Decimal)\\b",
        "\\bRandom\\b",
        "\\b(equals|hashCode|toString|getClass)\\s*\\(", "\\binstanceof\\b", "\\[\\]\\s*\\[\\]\\s*\\[\\]",
        "\\bimport\\s+(?!java\\.util\\.Arrays;)", "\\bArrays\\.(?!fill\\b)", "\\bMath\\.(?!(abs|min|max)\\b)",
        "\\bInteger\\.(?!signum\\b)", "\\bLong\\b", "\\bString\\b"};
    private static final int MOST_LINES = 60;
    private static final int MOST_CLASSES = 12;

    private LanguageTest() {
    }

    public static void main(String[] args) throws IOException {
        String text = withoutComments(Files.readString(SOURCE));
        for (String refused : REFUSED) {
            Matcher matcher = Pattern.compile(refused).matcher(text);
            if (matcher.find()) {
                Check.wrong("the class has " + matcher.group());
            }
        }
        Matcher classes = Pattern.compile("\\bclass\\s").matcher(text);
        int count = 0;
        while (classes.find()) {
            count++;
        }
        Check.due("classes", count <= MOST_CLASSES, true);
        judgeMethods(text.split("\n", -1));
        Check.end();
    }

    // Line ends stay, so that lengths of methods are still to be seen.
    private static String withoutComments(String text) {
        StringBuilder kept = new StringBuilder();
        Matcher matcher = Pattern.compile("(?s)/\\*.*?\\*/|//[^\n]*").matcher(text);
        int at = 0;
        while (matcher.find()) {
            kept.append(text, at, matcher.start()).append(matcher.group().replaceAll("[^\n]", ""));
            at = matcher.end();
        }
        return kept.append(text.substring(at)).toString();
    }

    private static void judgeMethods(String[] lines) {
        Pattern head = Pattern.compile("^( {4}| {8})[A-Za-z].*\\) \\{$");
        int methods = 0;
        for (int i = 0; i < lines.length; i++) {
            Matcher matcher = head.matcher(lines[i]);
            if (matcher.matches() && !lines[i].contains(" class ")) {
                int end = i;
                while (end < lines.length && !lines[end].equals(matcher.group(1) + "}")) {
                    end++;
                }
                methods++;
                Check.due(lines[i].trim() + " is short", end - i < MOST_LINES, true);
            }
        }
        Check.due("there are methods", methods > 22, true);
    }
}
