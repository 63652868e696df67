import java.io.IOException;
import java.lang.invoke.MethodHandles;
import java.lang.reflect.Method;
import java.lang.reflect.Modifier;
import java.nio.file.Files;
import java.nio.file.Path;
import java.util.regex.Matcher;
import java.util.regex.Pattern;
import javax.tools.JavaCompiler;
import javax.tools.ToolProvider;

/** README.md's examples compile and answer as they say, and it names every call. Runs in the project's folder. */
public final class ReadmeTest {
    private static final Path README = Path.of("README.md");
    // A call of the bench with its answer and, behind it, what else is said of it.
    private static final Pattern ANSWERED =
            Pattern.compile("(?m)^bench\\.(.*\\));\\s*// (-?\\d+|true|false)\\b(.*)$");
    private static final Pattern RESULT = Pattern.compile("the RESULT is (-?\\d+) / (\\d+)");

    private ReadmeTest() {
    }

    public static void main(String[] args) throws IOException, ReflectiveOperationException {
        String text = Files.readString(README);
        Matcher block = Pattern.compile("(?s)```java\n(.*?)```").matcher(text);
        StringBuilder source = new StringBuilder("final class Readme {\n");
        int examples = 0;
        while (block.find()) {
            source.append("static void example").append(examples).append("() {\n");
            source.append(withChecks(block.group(1))).append("}\n");
            examples++;
        }
        Check.due("examples", examples, 2);
        run(source.append("}\n").toString(), examples);
        for (Method method : TensionNet.class.getDeclaredMethods()) {
            boolean open = Modifier.isPublic(method.getModifiers());
            Check.due(method.getName() + " is named", !open || text.contains("`" + method.getName() + "`"), true);
        }
        Check.end();
    }

    private static String withChecks(String example) {
        Matcher call = ANSWERED.matcher(example);
        StringBuilder checked = new StringBuilder();
        int answers = 0;
        while (call.find()) {
            StringBuilder check = new StringBuilder("Check.due(\"" + call.group(1) + "\", bench." + call.group(1)
                    + ", " + call.group(2) + ");");
            Matcher result = RESULT.matcher(call.group(3));
            if (result.find()) {
                check.append(" Check.result(\"" + call.group(1) + "\", bench, " + result.group(1) + ", "
                        + result.group(2) + ");");
            }
            call.appendReplacement(checked, Matcher.quoteReplacement(check.toString()));
            answers++;
        }
        Check.due("an example has answers", answers > 5, true);
        return call.appendTail(checked).toString();
    }

    private static void run(String source, int examples) throws IOException, ReflectiveOperationException {
        Path folder = Files.createTempDirectory("readme");
        Path file = folder.resolve("Readme.java");
        Path made = folder.resolve("Readme.class");
        Files.writeString(file, source);
        JavaCompiler compiler = ToolProvider.getSystemJavaCompiler();
        int refused = compiler.run(null, null, null, "-d", folder.toString(),
                "-cp", System.getProperty("java.class.path"), file.toString());
        Check.due("the examples compile", refused, 0);
        if (refused == 0) {
            Class<?> readme = MethodHandles.lookup().defineClass(Files.readAllBytes(made));
            for (int i = 0; i < examples; i++) {
                Method example = readme.getDeclaredMethod("example" + i);
                example.invoke(null);
            }
        }
        Files.deleteIfExists(made);
        Files.delete(file);
        Files.delete(folder);
    }
}
